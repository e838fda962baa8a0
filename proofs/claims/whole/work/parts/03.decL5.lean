theorem mD_La_law_841 : decode mB_La_law 841 = .ok (.aload_n 2, 1) := by decide +kernel
theorem mD_La_law_842 : decode mB_La_law 842 = .ok (.invokevirtual 73, 3) := by decide +kernel
theorem mD_La_law_845 : decode mB_La_law 845 = .ok (.iload 5, 2) := by decide +kernel
theorem mD_La_law_847 : decode mB_La_law 847 = .ok (.if_icmp .eq 5, 3) := by decide +kernel
theorem mD_La_law_850 : decode mB_La_law 850 = .ok (.iconst 0, 1) := by decide +kernel
theorem mD_La_law_851 : decode mB_La_law 851 = .ok (.ireturn, 1) := by decide +kernel
theorem mD_La_law_852 : decode mB_La_law 852 = .ok (.iload 5, 2) := by decide +kernel
theorem mD_La_law_854 : decode mB_La_law 854 = .ok (.ifCond .ne 15, 3) := by decide +kernel
theorem mD_La_law_857 : decode mB_La_law 857 = .ok (.aload_n 3, 1) := by decide +kernel
theorem mD_La_law_858 : decode mB_La_law 858 = .ok (.iconst 0, 1) := by decide +kernel
theorem mD_La_law_859 : decode mB_La_law 859 = .ok (.laload, 1) := by decide +kernel
theorem mD_La_law_860 : decode mB_La_law 860 = .ok (.iload 6, 2) := by decide +kernel
theorem mD_La_law_862 : decode mB_La_law 862 = .ok (.i2l, 1) := by decide +kernel
theorem mD_La_law_863 : decode mB_La_law 863 = .ok (.lcmp, 1) := by decide +kernel
theorem mD_La_law_864 : decode mB_La_law 864 = .ok (.ifCond .eq 5, 3) := by decide +kernel
theorem mD_La_law_867 : decode mB_La_law 867 = .ok (.iconst 0, 1) := by decide +kernel
theorem mD_La_law_868 : decode mB_La_law 868 = .ok (.ireturn, 1) := by decide +kernel
theorem mD_La_law_869 : decode mB_La_law 869 = .ok (.goto 140, 3) := by decide +kernel
theorem mD_La_law_872 : decode mB_La_law 872 = .ok (.aload_n 1, 1) := by decide +kernel
theorem mD_La_law_873 : decode mB_La_law 873 = .ok (.aload_n 0, 1) := by decide +kernel
theorem mD_La_law_874 : decode mB_La_law 874 = .ok (.iload 4, 2) := by decide +kernel
theorem mD_La_law_876 : decode mB_La_law 876 = .ok (.iconst 1, 1) := by decide +kernel
theorem mD_La_law_877 : decode mB_La_law 877 = .ok (.iadd, 1) := by decide +kernel
theorem mD_La_law_878 : decode mB_La_law 878 = .ok (.iaload, 1) := by decide +kernel
theorem mD_La_law_879 : decode mB_La_law 879 = .ok (.aload_n 0, 1) := by decide +kernel
theorem mD_La_law_880 : decode mB_La_law 880 = .ok (.iload 4, 2) := by decide +kernel
theorem mD_La_law_882 : decode mB_La_law 882 = .ok (.iconst 2, 1) := by decide +kernel
theorem mD_La_law_883 : decode mB_La_law 883 = .ok (.iadd, 1) := by decide +kernel
theorem mD_La_law_884 : decode mB_La_law 884 = .ok (.iaload, 1) := by decide +kernel
theorem mD_La_law_885 : decode mB_La_law 885 = .ok (.aload_n 3, 1) := by decide +kernel
theorem mD_La_law_886 : decode mB_La_law 886 = .ok (.invokestatic 110, 3) := by decide +kernel
theorem mD_La_law_889 : decode mB_La_law 889 = .ok (.istore 5, 2) := by decide +kernel
theorem mD_La_law_891 : decode mB_La_law 891 = .ok (.aload_n 2, 1) := by decide +kernel
theorem mD_La_law_892 : decode mB_La_law 892 = .ok (.aload_n 0, 1) := by decide +kernel
theorem mD_La_law_893 : decode mB_La_law 893 = .ok (.iload 4, 2) := by decide +kernel
theorem mD_La_law_895 : decode mB_La_law 895 = .ok (.iconst 1, 1) := by decide +kernel
theorem mD_La_law_896 : decode mB_La_law 896 = .ok (.iadd, 1) := by decide +kernel
theorem mD_La_law_897 : decode mB_La_law 897 = .ok (.iaload, 1) := by decide +kernel
theorem mD_La_law_898 : decode mB_La_law 898 = .ok (.aload_n 0, 1) := by decide +kernel
theorem mD_La_law_899 : decode mB_La_law 899 = .ok (.iload 4, 2) := by decide +kernel
theorem mD_La_law_901 : decode mB_La_law 901 = .ok (.iconst 2, 1) := by decide +kernel
theorem mD_La_law_902 : decode mB_La_law 902 = .ok (.iadd, 1) := by decide +kernel
theorem mD_La_law_903 : decode mB_La_law 903 = .ok (.iaload, 1) := by decide +kernel
theorem mD_La_law_904 : decode mB_La_law 904 = .ok (.invokevirtual 112, 3) := by decide +kernel
theorem mD_La_law_907 : decode mB_La_law 907 = .ok (.istore 6, 2) := by decide +kernel
theorem mD_La_law_909 : decode mB_La_law 909 = .ok (.aload_n 2, 1) := by decide +kernel
theorem mD_La_law_910 : decode mB_La_law 910 = .ok (.invokevirtual 73, 3) := by decide +kernel
theorem mD_La_law_913 : decode mB_La_law 913 = .ok (.iload 5, 2) := by decide +kernel
theorem mD_La_law_915 : decode mB_La_law 915 = .ok (.if_icmp .eq 5, 3) := by decide +kernel
theorem mD_La_law_918 : decode mB_La_law 918 = .ok (.iconst 0, 1) := by decide +kernel
theorem mD_La_law_919 : decode mB_La_law 919 = .ok (.ireturn, 1) := by decide +kernel
theorem mD_La_law_920 : decode mB_La_law 920 = .ok (.iload 5, 2) := by decide +kernel
theorem mD_La_law_922 : decode mB_La_law 922 = .ok (.ifCond .ne 15, 3) := by decide +kernel
theorem mD_La_law_925 : decode mB_La_law 925 = .ok (.aload_n 3, 1) := by decide +kernel
theorem mD_La_law_926 : decode mB_La_law 926 = .ok (.iconst 0, 1) := by decide +kernel
theorem mD_La_law_927 : decode mB_La_law 927 = .ok (.laload, 1) := by decide +kernel
theorem mD_La_law_928 : decode mB_La_law 928 = .ok (.iload 6, 2) := by decide +kernel
theorem mD_La_law_930 : decode mB_La_law 930 = .ok (.i2l, 1) := by decide +kernel
theorem mD_La_law_931 : decode mB_La_law 931 = .ok (.lcmp, 1) := by decide +kernel
theorem mD_La_law_932 : decode mB_La_law 932 = .ok (.ifCond .eq 5, 3) := by decide +kernel
theorem mD_La_law_935 : decode mB_La_law 935 = .ok (.iconst 0, 1) := by decide +kernel
theorem mD_La_law_936 : decode mB_La_law 936 = .ok (.ireturn, 1) := by decide +kernel
theorem mD_La_law_937 : decode mB_La_law 937 = .ok (.goto 72, 3) := by decide +kernel
theorem mD_La_law_940 : decode mB_La_law 940 = .ok (.aload_n 1, 1) := by decide +kernel
theorem mD_La_law_941 : decode mB_La_law 941 = .ok (.invokevirtual 113, 3) := by decide +kernel
theorem mD_La_law_944 : decode mB_La_law 944 = .ok (.aload_n 2, 1) := by decide +kernel
theorem mD_La_law_945 : decode mB_La_law 945 = .ok (.invokevirtual 116, 3) := by decide +kernel
theorem mD_La_law_948 : decode mB_La_law 948 = .ok (.if_icmp .eq 61, 3) := by decide +kernel
theorem mD_La_law_951 : decode mB_La_law 951 = .ok (.iconst 0, 1) := by decide +kernel
theorem mD_La_law_952 : decode mB_La_law 952 = .ok (.ireturn, 1) := by decide +kernel
theorem mD_La_law_953 : decode mB_La_law 953 = .ok (.aload_n 1, 1) := by decide +kernel
theorem mD_La_law_954 : decode mB_La_law 954 = .ok (.aload_n 0, 1) := by decide +kernel
theorem mD_La_law_955 : decode mB_La_law 955 = .ok (.iload 4, 2) := by decide +kernel
theorem mD_La_law_957 : decode mB_La_law 957 = .ok (.iconst 1, 1) := by decide +kernel
theorem mD_La_law_958 : decode mB_La_law 958 = .ok (.iadd, 1) := by decide +kernel
theorem mD_La_law_959 : decode mB_La_law 959 = .ok (.iaload, 1) := by decide +kernel
theorem mD_La_law_960 : decode mB_La_law 960 = .ok (.aload_n 3, 1) := by decide +kernel
theorem mD_La_law_961 : decode mB_La_law 961 = .ok (.invokestatic 117, 3) := by decide +kernel
theorem mD_La_law_964 : decode mB_La_law 964 = .ok (.istore 5, 2) := by decide +kernel
theorem mD_La_law_966 : decode mB_La_law 966 = .ok (.aload_n 2, 1) := by decide +kernel
theorem mD_La_law_967 : decode mB_La_law 967 = .ok (.aload_n 0, 1) := by decide +kernel
theorem mD_La_law_968 : decode mB_La_law 968 = .ok (.iload 4, 2) := by decide +kernel
theorem mD_La_law_970 : decode mB_La_law 970 = .ok (.iconst 1, 1) := by decide +kernel
theorem mD_La_law_971 : decode mB_La_law 971 = .ok (.iadd, 1) := by decide +kernel
theorem mD_La_law_972 : decode mB_La_law 972 = .ok (.iaload, 1) := by decide +kernel
theorem mD_La_law_973 : decode mB_La_law 973 = .ok (.invokevirtual 119, 3) := by decide +kernel
theorem mD_La_law_976 : decode mB_La_law 976 = .ok (.istore 6, 2) := by decide +kernel
theorem mD_La_law_978 : decode mB_La_law 978 = .ok (.aload_n 2, 1) := by decide +kernel
theorem mD_La_law_979 : decode mB_La_law 979 = .ok (.invokevirtual 73, 3) := by decide +kernel
theorem mD_La_law_982 : decode mB_La_law 982 = .ok (.iload 5, 2) := by decide +kernel
theorem mD_La_law_984 : decode mB_La_law 984 = .ok (.if_icmp .eq 5, 3) := by decide +kernel
theorem mD_La_law_987 : decode mB_La_law 987 = .ok (.iconst 0, 1) := by decide +kernel
theorem mD_La_law_988 : decode mB_La_law 988 = .ok (.ireturn, 1) := by decide +kernel
theorem mD_La_law_989 : decode mB_La_law 989 = .ok (.iload 5, 2) := by decide +kernel
theorem mD_La_law_991 : decode mB_La_law 991 = .ok (.ifCond .ne 15, 3) := by decide +kernel
theorem mD_La_law_994 : decode mB_La_law 994 = .ok (.aload_n 3, 1) := by decide +kernel
theorem mD_La_law_995 : decode mB_La_law 995 = .ok (.iconst 0, 1) := by decide +kernel
theorem mD_La_law_996 : decode mB_La_law 996 = .ok (.laload, 1) := by decide +kernel
theorem mD_La_law_997 : decode mB_La_law 997 = .ok (.iload 6, 2) := by decide +kernel
theorem mD_La_law_999 : decode mB_La_law 999 = .ok (.i2l, 1) := by decide +kernel
