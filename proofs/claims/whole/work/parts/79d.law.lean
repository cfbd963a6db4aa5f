/-! THE LAW, decoded (4) -/
theorem d_law_692 : decode code 692 = .ok (.iconst 0, 1) := by decide +kernel
theorem d_law_693 : decode code 693 = .ok (.ireturn, 1) := by decide +kernel
theorem d_law_694 : decode code 694 = .ok (.aload_n 1, 1) := by decide +kernel
theorem d_law_695 : decode code 695 = .ok (.aload_n 0, 1) := by decide +kernel
theorem d_law_696 : decode code 696 = .ok (.iload_n 3, 1) := by decide +kernel
theorem d_law_697 : decode code 697 = .ok (.iconst 1, 1) := by decide +kernel
theorem d_law_698 : decode code 698 = .ok (.iadd, 1) := by decide +kernel
theorem d_law_699 : decode code 699 = .ok (.iaload, 1) := by decide +kernel
theorem d_law_700 : decode code 700 = .ok (.aload_n 0, 1) := by decide +kernel
theorem d_law_701 : decode code 701 = .ok (.iload_n 3, 1) := by decide +kernel
theorem d_law_702 : decode code 702 = .ok (.iconst 2, 1) := by decide +kernel
theorem d_law_703 : decode code 703 = .ok (.iadd, 1) := by decide +kernel
theorem d_law_704 : decode code 704 = .ok (.iaload, 1) := by decide +kernel
theorem d_law_705 : decode code 705 = .ok (.aload_n 0, 1) := by decide +kernel
theorem d_law_706 : decode code 706 = .ok (.iload_n 3, 1) := by decide +kernel
theorem d_law_707 : decode code 707 = .ok (.iconst 3, 1) := by decide +kernel
theorem d_law_708 : decode code 708 = .ok (.iadd, 1) := by decide +kernel
theorem d_law_709 : decode code 709 = .ok (.iaload, 1) := by decide +kernel
theorem d_law_710 : decode code 710 = .ok (.ifCond .eq 7, 3) := by decide +kernel
theorem d_law_713 : decode code 713 = .ok (.iconst 1, 1) := by decide +kernel
theorem d_law_714 : decode code 714 = .ok (.goto 4, 3) := by decide +kernel
theorem d_law_717 : decode code 717 = .ok (.iconst 0, 1) := by decide +kernel
theorem d_law_718 : decode code 718 = .ok (.invokevirtual 101, 3) := by decide +kernel
theorem d_law_721 : decode code 721 = .ok (.aload_n 2, 1) := by decide +kernel
theorem d_law_722 : decode code 722 = .ok (.aload_n 0, 1) := by decide +kernel
theorem d_law_723 : decode code 723 = .ok (.iload_n 3, 1) := by decide +kernel
theorem d_law_724 : decode code 724 = .ok (.iconst 1, 1) := by decide +kernel
theorem d_law_725 : decode code 725 = .ok (.iadd, 1) := by decide +kernel
theorem d_law_726 : decode code 726 = .ok (.iaload, 1) := by decide +kernel
theorem d_law_727 : decode code 727 = .ok (.aload_n 0, 1) := by decide +kernel
theorem d_law_728 : decode code 728 = .ok (.iload_n 3, 1) := by decide +kernel
theorem d_law_729 : decode code 729 = .ok (.iconst 2, 1) := by decide +kernel
theorem d_law_730 : decode code 730 = .ok (.iadd, 1) := by decide +kernel
theorem d_law_731 : decode code 731 = .ok (.iaload, 1) := by decide +kernel
theorem d_law_732 : decode code 732 = .ok (.aload_n 0, 1) := by decide +kernel
theorem d_law_733 : decode code 733 = .ok (.iload_n 3, 1) := by decide +kernel
theorem d_law_734 : decode code 734 = .ok (.iconst 3, 1) := by decide +kernel
theorem d_law_735 : decode code 735 = .ok (.iadd, 1) := by decide +kernel
theorem d_law_736 : decode code 736 = .ok (.iaload, 1) := by decide +kernel
theorem d_law_737 : decode code 737 = .ok (.ifCond .eq 7, 3) := by decide +kernel
theorem d_law_740 : decode code 740 = .ok (.iconst 1, 1) := by decide +kernel
theorem d_law_741 : decode code 741 = .ok (.goto 4, 3) := by decide +kernel
theorem d_law_744 : decode code 744 = .ok (.iconst 0, 1) := by decide +kernel
theorem d_law_745 : decode code 745 = .ok (.invokevirtual 105, 3) := by decide +kernel
theorem d_law_748 : decode code 748 = .ok (.if_icmp .eq 128, 3) := by decide +kernel
theorem d_law_751 : decode code 751 = .ok (.iconst 0, 1) := by decide +kernel
theorem d_law_752 : decode code 752 = .ok (.ireturn, 1) := by decide +kernel
theorem d_law_753 : decode code 753 = .ok (.aload_n 1, 1) := by decide +kernel
theorem d_law_754 : decode code 754 = .ok (.aload_n 0, 1) := by decide +kernel
theorem d_law_755 : decode code 755 = .ok (.iload_n 3, 1) := by decide +kernel
theorem d_law_756 : decode code 756 = .ok (.iconst 1, 1) := by decide +kernel
theorem d_law_757 : decode code 757 = .ok (.iadd, 1) := by decide +kernel
theorem d_law_758 : decode code 758 = .ok (.iaload, 1) := by decide +kernel
theorem d_law_759 : decode code 759 = .ok (.i2l, 1) := by decide +kernel
theorem d_law_760 : decode code 760 = .ok (.bipush 32, 2) := by decide +kernel
theorem d_law_762 : decode code 762 = .ok (.lshl, 1) := by decide +kernel
theorem d_law_763 : decode code 763 = .ok (.aload_n 0, 1) := by decide +kernel
theorem d_law_764 : decode code 764 = .ok (.iload_n 3, 1) := by decide +kernel
theorem d_law_765 : decode code 765 = .ok (.iconst 2, 1) := by decide +kernel
theorem d_law_766 : decode code 766 = .ok (.iadd, 1) := by decide +kernel
theorem d_law_767 : decode code 767 = .ok (.iaload, 1) := by decide +kernel
theorem d_law_768 : decode code 768 = .ok (.i2l, 1) := by decide +kernel
theorem d_law_769 : decode code 769 = .ok (.ldc2_w 77, 3) := by decide +kernel
theorem d_law_772 : decode code 772 = .ok (.land, 1) := by decide +kernel
theorem d_law_773 : decode code 773 = .ok (.lor, 1) := by decide +kernel
theorem d_law_774 : decode code 774 = .ok (.invokevirtual 106, 3) := by decide +kernel
theorem d_law_777 : decode code 777 = .ok (.aload_n 2, 1) := by decide +kernel
theorem d_law_778 : decode code 778 = .ok (.aload_n 0, 1) := by decide +kernel
theorem d_law_779 : decode code 779 = .ok (.iload_n 3, 1) := by decide +kernel
theorem d_law_780 : decode code 780 = .ok (.iconst 1, 1) := by decide +kernel
theorem d_law_781 : decode code 781 = .ok (.iadd, 1) := by decide +kernel
theorem d_law_782 : decode code 782 = .ok (.iaload, 1) := by decide +kernel
theorem d_law_783 : decode code 783 = .ok (.i2l, 1) := by decide +kernel
theorem d_law_784 : decode code 784 = .ok (.bipush 32, 2) := by decide +kernel
theorem d_law_786 : decode code 786 = .ok (.lshl, 1) := by decide +kernel
theorem d_law_787 : decode code 787 = .ok (.aload_n 0, 1) := by decide +kernel
theorem d_law_788 : decode code 788 = .ok (.iload_n 3, 1) := by decide +kernel
theorem d_law_789 : decode code 789 = .ok (.iconst 2, 1) := by decide +kernel
theorem d_law_790 : decode code 790 = .ok (.iadd, 1) := by decide +kernel
theorem d_law_791 : decode code 791 = .ok (.iaload, 1) := by decide +kernel
theorem d_law_792 : decode code 792 = .ok (.i2l, 1) := by decide +kernel
theorem d_law_793 : decode code 793 = .ok (.ldc2_w 77, 3) := by decide +kernel
theorem d_law_796 : decode code 796 = .ok (.land, 1) := by decide +kernel
theorem d_law_797 : decode code 797 = .ok (.lor, 1) := by decide +kernel
theorem d_law_798 : decode code 798 = .ok (.invokevirtual 110, 3) := by decide +kernel
theorem d_law_801 : decode code 801 = .ok (.lcmp, 1) := by decide +kernel
theorem d_law_802 : decode code 802 = .ok (.ifCond .eq 74, 3) := by decide +kernel
theorem d_law_805 : decode code 805 = .ok (.iconst 0, 1) := by decide +kernel
theorem d_law_806 : decode code 806 = .ok (.ireturn, 1) := by decide +kernel
theorem d_law_807 : decode code 807 = .ok (.aload_n 1, 1) := by decide +kernel
theorem d_law_808 : decode code 808 = .ok (.aload_n 0, 1) := by decide +kernel
theorem d_law_809 : decode code 809 = .ok (.iload_n 3, 1) := by decide +kernel
theorem d_law_810 : decode code 810 = .ok (.iconst 1, 1) := by decide +kernel
theorem d_law_811 : decode code 811 = .ok (.iadd, 1) := by decide +kernel
theorem d_law_812 : decode code 812 = .ok (.iaload, 1) := by decide +kernel
theorem d_law_813 : decode code 813 = .ok (.invokevirtual 111, 3) := by decide +kernel
theorem d_law_816 : decode code 816 = .ok (.aload_n 2, 1) := by decide +kernel
theorem d_law_817 : decode code 817 = .ok (.aload_n 0, 1) := by decide +kernel
theorem d_law_818 : decode code 818 = .ok (.iload_n 3, 1) := by decide +kernel
theorem d_law_819 : decode code 819 = .ok (.iconst 1, 1) := by decide +kernel
theorem d_law_820 : decode code 820 = .ok (.iadd, 1) := by decide +kernel
theorem d_law_821 : decode code 821 = .ok (.iaload, 1) := by decide +kernel
theorem d_law_822 : decode code 822 = .ok (.invokevirtual 114, 3) := by decide +kernel
theorem d_law_825 : decode code 825 = .ok (.if_icmp .eq 51, 3) := by decide +kernel
theorem d_law_828 : decode code 828 = .ok (.iconst 0, 1) := by decide +kernel
theorem d_law_829 : decode code 829 = .ok (.ireturn, 1) := by decide +kernel
theorem d_law_830 : decode code 830 = .ok (.aload_n 1, 1) := by decide +kernel
theorem d_law_831 : decode code 831 = .ok (.aload_n 0, 1) := by decide +kernel
theorem d_law_832 : decode code 832 = .ok (.iload_n 3, 1) := by decide +kernel
theorem d_law_833 : decode code 833 = .ok (.iconst 1, 1) := by decide +kernel
theorem d_law_834 : decode code 834 = .ok (.iadd, 1) := by decide +kernel
theorem d_law_835 : decode code 835 = .ok (.iaload, 1) := by decide +kernel
theorem d_law_836 : decode code 836 = .ok (.invokevirtual 115, 3) := by decide +kernel
theorem d_law_839 : decode code 839 = .ok (.aload_n 2, 1) := by decide +kernel
theorem d_law_840 : decode code 840 = .ok (.aload_n 0, 1) := by decide +kernel
theorem d_law_841 : decode code 841 = .ok (.iload_n 3, 1) := by decide +kernel
theorem d_law_842 : decode code 842 = .ok (.iconst 1, 1) := by decide +kernel
theorem d_law_843 : decode code 843 = .ok (.iadd, 1) := by decide +kernel
theorem d_law_844 : decode code 844 = .ok (.iaload, 1) := by decide +kernel
theorem d_law_845 : decode code 845 = .ok (.invokevirtual 118, 3) := by decide +kernel
theorem d_law_848 : decode code 848 = .ok (.if_icmp .eq 28, 3) := by decide +kernel
theorem d_law_851 : decode code 851 = .ok (.iconst 0, 1) := by decide +kernel
theorem d_law_852 : decode code 852 = .ok (.ireturn, 1) := by decide +kernel
theorem d_law_853 : decode code 853 = .ok (.aload_n 1, 1) := by decide +kernel
theorem d_law_854 : decode code 854 = .ok (.aload_n 0, 1) := by decide +kernel
theorem d_law_855 : decode code 855 = .ok (.iload_n 3, 1) := by decide +kernel
theorem d_law_856 : decode code 856 = .ok (.iconst 1, 1) := by decide +kernel
theorem d_law_857 : decode code 857 = .ok (.iadd, 1) := by decide +kernel
theorem d_law_858 : decode code 858 = .ok (.iaload, 1) := by decide +kernel
theorem d_law_859 : decode code 859 = .ok (.invokevirtual 119, 3) := by decide +kernel
theorem d_law_862 : decode code 862 = .ok (.aload_n 2, 1) := by decide +kernel
theorem d_law_863 : decode code 863 = .ok (.aload_n 0, 1) := by decide +kernel
theorem d_law_864 : decode code 864 = .ok (.iload_n 3, 1) := by decide +kernel
theorem d_law_865 : decode code 865 = .ok (.iconst 1, 1) := by decide +kernel
theorem d_law_866 : decode code 866 = .ok (.iadd, 1) := by decide +kernel
theorem d_law_867 : decode code 867 = .ok (.iaload, 1) := by decide +kernel
theorem d_law_868 : decode code 868 = .ok (.invokevirtual 122, 3) := by decide +kernel
theorem d_law_871 : decode code 871 = .ok (.if_icmp .eq 5, 3) := by decide +kernel
theorem d_law_874 : decode code 874 = .ok (.iconst 0, 1) := by decide +kernel
theorem d_law_875 : decode code 875 = .ok (.ireturn, 1) := by decide +kernel
theorem d_law_876 : decode code 876 = .ok (.iinc 3 4, 3) := by decide +kernel
theorem d_law_879 : decode code 879 = .ok (.goto (-861), 3) := by decide +kernel
theorem d_law_882 : decode code 882 = .ok (.iconst 1, 1) := by decide +kernel
theorem d_law_883 : decode code 883 = .ok (.ireturn, 1) := by decide +kernel
