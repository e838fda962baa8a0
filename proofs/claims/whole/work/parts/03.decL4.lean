theorem mD_La_law_687 : decode mB_La_law 687 = .ok (.aload_n 0, 1) := by decide +kernel
theorem mD_La_law_688 : decode mB_La_law 688 = .ok (.iload 4, 2) := by decide +kernel
theorem mD_La_law_690 : decode mB_La_law 690 = .ok (.iconst 1, 1) := by decide +kernel
theorem mD_La_law_691 : decode mB_La_law 691 = .ok (.iadd, 1) := by decide +kernel
theorem mD_La_law_692 : decode mB_La_law 692 = .ok (.iaload, 1) := by decide +kernel
theorem mD_La_law_693 : decode mB_La_law 693 = .ok (.invokevirtual 103, 3) := by decide +kernel
theorem mD_La_law_696 : decode mB_La_law 696 = .ok (.istore 6, 2) := by decide +kernel
theorem mD_La_law_698 : decode mB_La_law 698 = .ok (.aload_n 2, 1) := by decide +kernel
theorem mD_La_law_699 : decode mB_La_law 699 = .ok (.invokevirtual 73, 3) := by decide +kernel
theorem mD_La_law_702 : decode mB_La_law 702 = .ok (.iload 5, 2) := by decide +kernel
theorem mD_La_law_704 : decode mB_La_law 704 = .ok (.if_icmp .eq 5, 3) := by decide +kernel
theorem mD_La_law_707 : decode mB_La_law 707 = .ok (.iconst 0, 1) := by decide +kernel
theorem mD_La_law_708 : decode mB_La_law 708 = .ok (.ireturn, 1) := by decide +kernel
theorem mD_La_law_709 : decode mB_La_law 709 = .ok (.iload 5, 2) := by decide +kernel
theorem mD_La_law_711 : decode mB_La_law 711 = .ok (.ifCond .ne 15, 3) := by decide +kernel
theorem mD_La_law_714 : decode mB_La_law 714 = .ok (.aload_n 3, 1) := by decide +kernel
theorem mD_La_law_715 : decode mB_La_law 715 = .ok (.iconst 0, 1) := by decide +kernel
theorem mD_La_law_716 : decode mB_La_law 716 = .ok (.laload, 1) := by decide +kernel
theorem mD_La_law_717 : decode mB_La_law 717 = .ok (.iload 6, 2) := by decide +kernel
theorem mD_La_law_719 : decode mB_La_law 719 = .ok (.i2l, 1) := by decide +kernel
theorem mD_La_law_720 : decode mB_La_law 720 = .ok (.lcmp, 1) := by decide +kernel
theorem mD_La_law_721 : decode mB_La_law 721 = .ok (.ifCond .eq 5, 3) := by decide +kernel
theorem mD_La_law_724 : decode mB_La_law 724 = .ok (.iconst 0, 1) := by decide +kernel
theorem mD_La_law_725 : decode mB_La_law 725 = .ok (.ireturn, 1) := by decide +kernel
theorem mD_La_law_726 : decode mB_La_law 726 = .ok (.goto 283, 3) := by decide +kernel
theorem mD_La_law_729 : decode mB_La_law 729 = .ok (.aload_n 1, 1) := by decide +kernel
theorem mD_La_law_730 : decode mB_La_law 730 = .ok (.aload_n 0, 1) := by decide +kernel
theorem mD_La_law_731 : decode mB_La_law 731 = .ok (.iload 4, 2) := by decide +kernel
theorem mD_La_law_733 : decode mB_La_law 733 = .ok (.iconst 1, 1) := by decide +kernel
theorem mD_La_law_734 : decode mB_La_law 734 = .ok (.iadd, 1) := by decide +kernel
theorem mD_La_law_735 : decode mB_La_law 735 = .ok (.iaload, 1) := by decide +kernel
theorem mD_La_law_736 : decode mB_La_law 736 = .ok (.aload_n 3, 1) := by decide +kernel
theorem mD_La_law_737 : decode mB_La_law 737 = .ok (.invokestatic 104, 3) := by decide +kernel
theorem mD_La_law_740 : decode mB_La_law 740 = .ok (.istore 5, 2) := by decide +kernel
theorem mD_La_law_742 : decode mB_La_law 742 = .ok (.aload_n 2, 1) := by decide +kernel
theorem mD_La_law_743 : decode mB_La_law 743 = .ok (.aload_n 0, 1) := by decide +kernel
theorem mD_La_law_744 : decode mB_La_law 744 = .ok (.iload 4, 2) := by decide +kernel
theorem mD_La_law_746 : decode mB_La_law 746 = .ok (.iconst 1, 1) := by decide +kernel
theorem mD_La_law_747 : decode mB_La_law 747 = .ok (.iadd, 1) := by decide +kernel
theorem mD_La_law_748 : decode mB_La_law 748 = .ok (.iaload, 1) := by decide +kernel
theorem mD_La_law_749 : decode mB_La_law 749 = .ok (.invokevirtual 106, 3) := by decide +kernel
theorem mD_La_law_752 : decode mB_La_law 752 = .ok (.istore 6, 2) := by decide +kernel
theorem mD_La_law_754 : decode mB_La_law 754 = .ok (.aload_n 2, 1) := by decide +kernel
theorem mD_La_law_755 : decode mB_La_law 755 = .ok (.invokevirtual 73, 3) := by decide +kernel
theorem mD_La_law_758 : decode mB_La_law 758 = .ok (.iload 5, 2) := by decide +kernel
theorem mD_La_law_760 : decode mB_La_law 760 = .ok (.if_icmp .eq 5, 3) := by decide +kernel
theorem mD_La_law_763 : decode mB_La_law 763 = .ok (.iconst 0, 1) := by decide +kernel
theorem mD_La_law_764 : decode mB_La_law 764 = .ok (.ireturn, 1) := by decide +kernel
theorem mD_La_law_765 : decode mB_La_law 765 = .ok (.iload 5, 2) := by decide +kernel
theorem mD_La_law_767 : decode mB_La_law 767 = .ok (.ifCond .ne 22, 3) := by decide +kernel
theorem mD_La_law_770 : decode mB_La_law 770 = .ok (.aload_n 3, 1) := by decide +kernel
theorem mD_La_law_771 : decode mB_La_law 771 = .ok (.iconst 0, 1) := by decide +kernel
theorem mD_La_law_772 : decode mB_La_law 772 = .ok (.laload, 1) := by decide +kernel
theorem mD_La_law_773 : decode mB_La_law 773 = .ok (.iload 6, 2) := by decide +kernel
theorem mD_La_law_775 : decode mB_La_law 775 = .ok (.ifCond .eq 7, 3) := by decide +kernel
theorem mD_La_law_778 : decode mB_La_law 778 = .ok (.lconst 1, 1) := by decide +kernel
theorem mD_La_law_779 : decode mB_La_law 779 = .ok (.goto 4, 3) := by decide +kernel
theorem mD_La_law_782 : decode mB_La_law 782 = .ok (.lconst 0, 1) := by decide +kernel
theorem mD_La_law_783 : decode mB_La_law 783 = .ok (.lcmp, 1) := by decide +kernel
theorem mD_La_law_784 : decode mB_La_law 784 = .ok (.ifCond .eq 5, 3) := by decide +kernel
theorem mD_La_law_787 : decode mB_La_law 787 = .ok (.iconst 0, 1) := by decide +kernel
theorem mD_La_law_788 : decode mB_La_law 788 = .ok (.ireturn, 1) := by decide +kernel
theorem mD_La_law_789 : decode mB_La_law 789 = .ok (.goto 220, 3) := by decide +kernel
theorem mD_La_law_792 : decode mB_La_law 792 = .ok (.aload_n 1, 1) := by decide +kernel
theorem mD_La_law_793 : decode mB_La_law 793 = .ok (.aload_n 0, 1) := by decide +kernel
theorem mD_La_law_794 : decode mB_La_law 794 = .ok (.iload 4, 2) := by decide +kernel
theorem mD_La_law_796 : decode mB_La_law 796 = .ok (.iconst 1, 1) := by decide +kernel
theorem mD_La_law_797 : decode mB_La_law 797 = .ok (.iadd, 1) := by decide +kernel
theorem mD_La_law_798 : decode mB_La_law 798 = .ok (.iaload, 1) := by decide +kernel
theorem mD_La_law_799 : decode mB_La_law 799 = .ok (.aload_n 0, 1) := by decide +kernel
theorem mD_La_law_800 : decode mB_La_law 800 = .ok (.iload 4, 2) := by decide +kernel
theorem mD_La_law_802 : decode mB_La_law 802 = .ok (.iconst 2, 1) := by decide +kernel
theorem mD_La_law_803 : decode mB_La_law 803 = .ok (.iadd, 1) := by decide +kernel
theorem mD_La_law_804 : decode mB_La_law 804 = .ok (.iaload, 1) := by decide +kernel
theorem mD_La_law_805 : decode mB_La_law 805 = .ok (.aload_n 0, 1) := by decide +kernel
theorem mD_La_law_806 : decode mB_La_law 806 = .ok (.iload 4, 2) := by decide +kernel
theorem mD_La_law_808 : decode mB_La_law 808 = .ok (.iconst 3, 1) := by decide +kernel
theorem mD_La_law_809 : decode mB_La_law 809 = .ok (.iadd, 1) := by decide +kernel
theorem mD_La_law_810 : decode mB_La_law 810 = .ok (.iaload, 1) := by decide +kernel
theorem mD_La_law_811 : decode mB_La_law 811 = .ok (.aload_n 3, 1) := by decide +kernel
theorem mD_La_law_812 : decode mB_La_law 812 = .ok (.invokestatic 107, 3) := by decide +kernel
theorem mD_La_law_815 : decode mB_La_law 815 = .ok (.istore 5, 2) := by decide +kernel
theorem mD_La_law_817 : decode mB_La_law 817 = .ok (.aload_n 2, 1) := by decide +kernel
theorem mD_La_law_818 : decode mB_La_law 818 = .ok (.aload_n 0, 1) := by decide +kernel
theorem mD_La_law_819 : decode mB_La_law 819 = .ok (.iload 4, 2) := by decide +kernel
theorem mD_La_law_821 : decode mB_La_law 821 = .ok (.iconst 1, 1) := by decide +kernel
theorem mD_La_law_822 : decode mB_La_law 822 = .ok (.iadd, 1) := by decide +kernel
theorem mD_La_law_823 : decode mB_La_law 823 = .ok (.iaload, 1) := by decide +kernel
theorem mD_La_law_824 : decode mB_La_law 824 = .ok (.aload_n 0, 1) := by decide +kernel
theorem mD_La_law_825 : decode mB_La_law 825 = .ok (.iload 4, 2) := by decide +kernel
theorem mD_La_law_827 : decode mB_La_law 827 = .ok (.iconst 2, 1) := by decide +kernel
theorem mD_La_law_828 : decode mB_La_law 828 = .ok (.iadd, 1) := by decide +kernel
theorem mD_La_law_829 : decode mB_La_law 829 = .ok (.iaload, 1) := by decide +kernel
theorem mD_La_law_830 : decode mB_La_law 830 = .ok (.aload_n 0, 1) := by decide +kernel
theorem mD_La_law_831 : decode mB_La_law 831 = .ok (.iload 4, 2) := by decide +kernel
theorem mD_La_law_833 : decode mB_La_law 833 = .ok (.iconst 3, 1) := by decide +kernel
theorem mD_La_law_834 : decode mB_La_law 834 = .ok (.iadd, 1) := by decide +kernel
theorem mD_La_law_835 : decode mB_La_law 835 = .ok (.iaload, 1) := by decide +kernel
theorem mD_La_law_836 : decode mB_La_law 836 = .ok (.invokevirtual 109, 3) := by decide +kernel
theorem mD_La_law_839 : decode mB_La_law 839 = .ok (.istore 6, 2) := by decide +kernel
