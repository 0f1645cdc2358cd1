theorem d_La_law_682 : decode code 682 = .ok (.ireturn, 1) := by decide +kernel
theorem d_La_law_683 : decode code 683 = .ok (.goto 562, 3) := by decide +kernel
theorem d_La_law_686 : decode code 686 = .ok (.aload_n 1, 1) := by decide +kernel
theorem d_La_law_687 : decode code 687 = .ok (.aload_n 0, 1) := by decide +kernel
theorem d_La_law_688 : decode code 688 = .ok (.iload 4, 2) := by decide +kernel
theorem d_La_law_690 : decode code 690 = .ok (.iconst 1, 1) := by decide +kernel
theorem d_La_law_691 : decode code 691 = .ok (.iadd, 1) := by decide +kernel
theorem d_La_law_692 : decode code 692 = .ok (.iaload, 1) := by decide +kernel
theorem d_La_law_693 : decode code 693 = .ok (.ifCond .eq 7, 3) := by decide +kernel
theorem d_La_law_696 : decode code 696 = .ok (.iconst 1, 1) := by decide +kernel
theorem d_La_law_697 : decode code 697 = .ok (.goto 4, 3) := by decide +kernel
theorem d_La_law_700 : decode code 700 = .ok (.iconst 0, 1) := by decide +kernel
theorem d_La_law_701 : decode code 701 = .ok (.aload_n 3, 1) := by decide +kernel
theorem d_La_law_702 : decode code 702 = .ok (.invokestatic 132, 3) := by decide +kernel
theorem d_La_law_705 : decode code 705 = .ok (.istore 5, 2) := by decide +kernel
theorem d_La_law_707 : decode code 707 = .ok (.aload_n 2, 1) := by decide +kernel
theorem d_La_law_708 : decode code 708 = .ok (.aload_n 0, 1) := by decide +kernel
theorem d_La_law_709 : decode code 709 = .ok (.iload 4, 2) := by decide +kernel
theorem d_La_law_711 : decode code 711 = .ok (.iconst 1, 1) := by decide +kernel
theorem d_La_law_712 : decode code 712 = .ok (.iadd, 1) := by decide +kernel
theorem d_La_law_713 : decode code 713 = .ok (.iaload, 1) := by decide +kernel
theorem d_La_law_714 : decode code 714 = .ok (.ifCond .eq 7, 3) := by decide +kernel
theorem d_La_law_717 : decode code 717 = .ok (.iconst 1, 1) := by decide +kernel
theorem d_La_law_718 : decode code 718 = .ok (.goto 4, 3) := by decide +kernel
theorem d_La_law_721 : decode code 721 = .ok (.iconst 0, 1) := by decide +kernel
theorem d_La_law_722 : decode code 722 = .ok (.invokevirtual 135, 3) := by decide +kernel
theorem d_La_law_725 : decode code 725 = .ok (.istore 6, 2) := by decide +kernel
theorem d_La_law_727 : decode code 727 = .ok (.aload_n 2, 1) := by decide +kernel
theorem d_La_law_728 : decode code 728 = .ok (.invokevirtual 95, 3) := by decide +kernel
theorem d_La_law_731 : decode code 731 = .ok (.iload 5, 2) := by decide +kernel
theorem d_La_law_733 : decode code 733 = .ok (.if_icmp .eq 5, 3) := by decide +kernel
theorem d_La_law_736 : decode code 736 = .ok (.iconst 0, 1) := by decide +kernel
theorem d_La_law_737 : decode code 737 = .ok (.ireturn, 1) := by decide +kernel
theorem d_La_law_738 : decode code 738 = .ok (.iload 5, 2) := by decide +kernel
theorem d_La_law_740 : decode code 740 = .ok (.ifCond .ne 22, 3) := by decide +kernel
theorem d_La_law_743 : decode code 743 = .ok (.aload_n 3, 1) := by decide +kernel
theorem d_La_law_744 : decode code 744 = .ok (.iconst 0, 1) := by decide +kernel
theorem d_La_law_745 : decode code 745 = .ok (.laload, 1) := by decide +kernel
theorem d_La_law_746 : decode code 746 = .ok (.iload 6, 2) := by decide +kernel
theorem d_La_law_748 : decode code 748 = .ok (.ifCond .eq 7, 3) := by decide +kernel
theorem d_La_law_751 : decode code 751 = .ok (.lconst 1, 1) := by decide +kernel
theorem d_La_law_752 : decode code 752 = .ok (.goto 4, 3) := by decide +kernel
theorem d_La_law_755 : decode code 755 = .ok (.lconst 0, 1) := by decide +kernel
theorem d_La_law_756 : decode code 756 = .ok (.lcmp, 1) := by decide +kernel
theorem d_La_law_757 : decode code 757 = .ok (.ifCond .eq 5, 3) := by decide +kernel
theorem d_La_law_760 : decode code 760 = .ok (.iconst 0, 1) := by decide +kernel
theorem d_La_law_761 : decode code 761 = .ok (.ireturn, 1) := by decide +kernel
theorem d_La_law_762 : decode code 762 = .ok (.goto 483, 3) := by decide +kernel
theorem d_La_law_765 : decode code 765 = .ok (.aload_n 1, 1) := by decide +kernel
theorem d_La_law_766 : decode code 766 = .ok (.invokevirtual 136, 3) := by decide +kernel
theorem d_La_law_769 : decode code 769 = .ok (.aload_n 2, 1) := by decide +kernel
theorem d_La_law_770 : decode code 770 = .ok (.invokevirtual 140, 3) := by decide +kernel
theorem d_La_law_773 : decode code 773 = .ok (.if_icmp .eq 472, 3) := by decide +kernel
theorem d_La_law_776 : decode code 776 = .ok (.iconst 0, 1) := by decide +kernel
theorem d_La_law_777 : decode code 777 = .ok (.ireturn, 1) := by decide +kernel
theorem d_La_law_778 : decode code 778 = .ok (.aload_n 1, 1) := by decide +kernel
theorem d_La_law_779 : decode code 779 = .ok (.aload_n 3, 1) := by decide +kernel
theorem d_La_law_780 : decode code 780 = .ok (.invokestatic 141, 3) := by decide +kernel
theorem d_La_law_783 : decode code 783 = .ok (.istore 5, 2) := by decide +kernel
theorem d_La_law_785 : decode code 785 = .ok (.aload_n 2, 1) := by decide +kernel
theorem d_La_law_786 : decode code 786 = .ok (.invokevirtual 143, 3) := by decide +kernel
theorem d_La_law_789 : decode code 789 = .ok (.istore 6, 2) := by decide +kernel
theorem d_La_law_791 : decode code 791 = .ok (.aload_n 2, 1) := by decide +kernel
theorem d_La_law_792 : decode code 792 = .ok (.invokevirtual 95, 3) := by decide +kernel
theorem d_La_law_795 : decode code 795 = .ok (.iload 5, 2) := by decide +kernel
theorem d_La_law_797 : decode code 797 = .ok (.if_icmp .eq 5, 3) := by decide +kernel
theorem d_La_law_800 : decode code 800 = .ok (.iconst 0, 1) := by decide +kernel
theorem d_La_law_801 : decode code 801 = .ok (.ireturn, 1) := by decide +kernel
theorem d_La_law_802 : decode code 802 = .ok (.iload 5, 2) := by decide +kernel
theorem d_La_law_804 : decode code 804 = .ok (.ifCond .ne 15, 3) := by decide +kernel
theorem d_La_law_807 : decode code 807 = .ok (.aload_n 3, 1) := by decide +kernel
theorem d_La_law_808 : decode code 808 = .ok (.iconst 0, 1) := by decide +kernel
theorem d_La_law_809 : decode code 809 = .ok (.laload, 1) := by decide +kernel
theorem d_La_law_810 : decode code 810 = .ok (.iload 6, 2) := by decide +kernel
theorem d_La_law_812 : decode code 812 = .ok (.i2l, 1) := by decide +kernel
theorem d_La_law_813 : decode code 813 = .ok (.lcmp, 1) := by decide +kernel
theorem d_La_law_814 : decode code 814 = .ok (.ifCond .eq 5, 3) := by decide +kernel
theorem d_La_law_817 : decode code 817 = .ok (.iconst 0, 1) := by decide +kernel
theorem d_La_law_818 : decode code 818 = .ok (.ireturn, 1) := by decide +kernel
theorem d_La_law_819 : decode code 819 = .ok (.goto 426, 3) := by decide +kernel
theorem d_La_law_822 : decode code 822 = .ok (.aload_n 1, 1) := by decide +kernel
theorem d_La_law_823 : decode code 823 = .ok (.aload_n 0, 1) := by decide +kernel
theorem d_La_law_824 : decode code 824 = .ok (.iload 4, 2) := by decide +kernel
theorem d_La_law_826 : decode code 826 = .ok (.iconst 1, 1) := by decide +kernel
theorem d_La_law_827 : decode code 827 = .ok (.iadd, 1) := by decide +kernel
theorem d_La_law_828 : decode code 828 = .ok (.iaload, 1) := by decide +kernel
theorem d_La_law_829 : decode code 829 = .ok (.aload_n 3, 1) := by decide +kernel
theorem d_La_law_830 : decode code 830 = .ok (.invokestatic 144, 3) := by decide +kernel
theorem d_La_law_833 : decode code 833 = .ok (.istore 5, 2) := by decide +kernel
theorem d_La_law_835 : decode code 835 = .ok (.aload_n 2, 1) := by decide +kernel
theorem d_La_law_836 : decode code 836 = .ok (.aload_n 0, 1) := by decide +kernel
theorem d_La_law_837 : decode code 837 = .ok (.iload 4, 2) := by decide +kernel
theorem d_La_law_839 : decode code 839 = .ok (.iconst 1, 1) := by decide +kernel
theorem d_La_law_840 : decode code 840 = .ok (.iadd, 1) := by decide +kernel
theorem d_La_law_841 : decode code 841 = .ok (.iaload, 1) := by decide +kernel
theorem d_La_law_842 : decode code 842 = .ok (.invokevirtual 146, 3) := by decide +kernel
theorem d_La_law_845 : decode code 845 = .ok (.lstore 6, 2) := by decide +kernel
theorem d_La_law_847 : decode code 847 = .ok (.aload_n 2, 1) := by decide +kernel
theorem d_La_law_848 : decode code 848 = .ok (.invokevirtual 95, 3) := by decide +kernel
theorem d_La_law_851 : decode code 851 = .ok (.iload 5, 2) := by decide +kernel
theorem d_La_law_853 : decode code 853 = .ok (.if_icmp .eq 5, 3) := by decide +kernel
theorem d_La_law_856 : decode code 856 = .ok (.iconst 0, 1) := by decide +kernel
theorem d_La_law_857 : decode code 857 = .ok (.ireturn, 1) := by decide +kernel
theorem d_La_law_858 : decode code 858 = .ok (.iload 5, 2) := by decide +kernel
theorem d_La_law_860 : decode code 860 = .ok (.ifCond .ne 14, 3) := by decide +kernel
theorem d_La_law_863 : decode code 863 = .ok (.aload_n 3, 1) := by decide +kernel
theorem d_La_law_864 : decode code 864 = .ok (.iconst 0, 1) := by decide +kernel
theorem d_La_law_865 : decode code 865 = .ok (.laload, 1) := by decide +kernel
theorem d_La_law_866 : decode code 866 = .ok (.lload 6, 2) := by decide +kernel
theorem d_La_law_868 : decode code 868 = .ok (.lcmp, 1) := by decide +kernel
theorem d_La_law_869 : decode code 869 = .ok (.ifCond .eq 5, 3) := by decide +kernel
theorem d_La_law_872 : decode code 872 = .ok (.iconst 0, 1) := by decide +kernel
theorem d_La_law_873 : decode code 873 = .ok (.ireturn, 1) := by decide +kernel
theorem d_La_law_874 : decode code 874 = .ok (.goto 371, 3) := by decide +kernel
theorem d_La_law_877 : decode code 877 = .ok (.aload_n 1, 1) := by decide +kernel
theorem d_La_law_878 : decode code 878 = .ok (.aload_n 3, 1) := by decide +kernel
theorem d_La_law_879 : decode code 879 = .ok (.invokestatic 147, 3) := by decide +kernel
theorem d_La_law_882 : decode code 882 = .ok (.istore 5, 2) := by decide +kernel
theorem d_La_law_884 : decode code 884 = .ok (.aload_n 2, 1) := by decide +kernel
theorem d_La_law_885 : decode code 885 = .ok (.invokevirtual 149, 3) := by decide +kernel
