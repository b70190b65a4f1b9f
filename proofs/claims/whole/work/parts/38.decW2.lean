theorem d_L_law_618 : decode cL_law 618 = .ok (.aload_n 2, 1) := by decide +kernel
theorem d_L_law_619 : decode cL_law 619 = .ok (.invokevirtual 91, 3) := by decide +kernel
theorem d_L_law_622 : decode cL_law 622 = .ok (.iload 5, 2) := by decide +kernel
theorem d_L_law_624 : decode cL_law 624 = .ok (.if_icmp .eq 5, 3) := by decide +kernel
theorem d_L_law_627 : decode cL_law 627 = .ok (.iconst 0, 1) := by decide +kernel
theorem d_L_law_628 : decode cL_law 628 = .ok (.ireturn, 1) := by decide +kernel
theorem d_L_law_629 : decode cL_law 629 = .ok (.iload 5, 2) := by decide +kernel
theorem d_L_law_631 : decode cL_law 631 = .ok (.ifCond .ne 15, 3) := by decide +kernel
theorem d_L_law_634 : decode cL_law 634 = .ok (.aload_n 3, 1) := by decide +kernel
theorem d_L_law_635 : decode cL_law 635 = .ok (.iconst 0, 1) := by decide +kernel
theorem d_L_law_636 : decode cL_law 636 = .ok (.laload, 1) := by decide +kernel
theorem d_L_law_637 : decode cL_law 637 = .ok (.iload 6, 2) := by decide +kernel
theorem d_L_law_639 : decode cL_law 639 = .ok (.i2l, 1) := by decide +kernel
theorem d_L_law_640 : decode cL_law 640 = .ok (.lcmp, 1) := by decide +kernel
theorem d_L_law_641 : decode cL_law 641 = .ok (.ifCond .eq 5, 3) := by decide +kernel
theorem d_L_law_644 : decode cL_law 644 = .ok (.iconst 0, 1) := by decide +kernel
theorem d_L_law_645 : decode cL_law 645 = .ok (.ireturn, 1) := by decide +kernel
theorem d_L_law_646 : decode cL_law 646 = .ok (.goto 1010, 3) := by decide +kernel
theorem d_L_law_649 : decode cL_law 649 = .ok (.aload_n 1, 1) := by decide +kernel
theorem d_L_law_650 : decode cL_law 650 = .ok (.aload_n 0, 1) := by decide +kernel
theorem d_L_law_651 : decode cL_law 651 = .ok (.iload 4, 2) := by decide +kernel
theorem d_L_law_653 : decode cL_law 653 = .ok (.iconst 1, 1) := by decide +kernel
theorem d_L_law_654 : decode cL_law 654 = .ok (.iadd, 1) := by decide +kernel
theorem d_L_law_655 : decode cL_law 655 = .ok (.iaload, 1) := by decide +kernel
theorem d_L_law_656 : decode cL_law 656 = .ok (.aload_n 0, 1) := by decide +kernel
theorem d_L_law_657 : decode cL_law 657 = .ok (.iload 4, 2) := by decide +kernel
theorem d_L_law_659 : decode cL_law 659 = .ok (.iconst 2, 1) := by decide +kernel
theorem d_L_law_660 : decode cL_law 660 = .ok (.iadd, 1) := by decide +kernel
theorem d_L_law_661 : decode cL_law 661 = .ok (.iaload, 1) := by decide +kernel
theorem d_L_law_662 : decode cL_law 662 = .ok (.aload_n 3, 1) := by decide +kernel
theorem d_L_law_663 : decode cL_law 663 = .ok (.invokestatic 113, 3) := by decide +kernel
theorem d_L_law_666 : decode cL_law 666 = .ok (.istore 5, 2) := by decide +kernel
theorem d_L_law_668 : decode cL_law 668 = .ok (.aload_n 2, 1) := by decide +kernel
theorem d_L_law_669 : decode cL_law 669 = .ok (.aload_n 0, 1) := by decide +kernel
theorem d_L_law_670 : decode cL_law 670 = .ok (.iload 4, 2) := by decide +kernel
theorem d_L_law_672 : decode cL_law 672 = .ok (.iconst 1, 1) := by decide +kernel
theorem d_L_law_673 : decode cL_law 673 = .ok (.iadd, 1) := by decide +kernel
theorem d_L_law_674 : decode cL_law 674 = .ok (.iaload, 1) := by decide +kernel
theorem d_L_law_675 : decode cL_law 675 = .ok (.aload_n 0, 1) := by decide +kernel
theorem d_L_law_676 : decode cL_law 676 = .ok (.iload 4, 2) := by decide +kernel
theorem d_L_law_678 : decode cL_law 678 = .ok (.iconst 2, 1) := by decide +kernel
theorem d_L_law_679 : decode cL_law 679 = .ok (.iadd, 1) := by decide +kernel
theorem d_L_law_680 : decode cL_law 680 = .ok (.iaload, 1) := by decide +kernel
theorem d_L_law_681 : decode cL_law 681 = .ok (.invokevirtual 115, 3) := by decide +kernel
theorem d_L_law_684 : decode cL_law 684 = .ok (.istore 6, 2) := by decide +kernel
theorem d_L_law_686 : decode cL_law 686 = .ok (.aload_n 2, 1) := by decide +kernel
theorem d_L_law_687 : decode cL_law 687 = .ok (.invokevirtual 91, 3) := by decide +kernel
theorem d_L_law_690 : decode cL_law 690 = .ok (.iload 5, 2) := by decide +kernel
theorem d_L_law_692 : decode cL_law 692 = .ok (.if_icmp .eq 5, 3) := by decide +kernel
theorem d_L_law_695 : decode cL_law 695 = .ok (.iconst 0, 1) := by decide +kernel
theorem d_L_law_696 : decode cL_law 696 = .ok (.ireturn, 1) := by decide +kernel
theorem d_L_law_697 : decode cL_law 697 = .ok (.iload 5, 2) := by decide +kernel
theorem d_L_law_699 : decode cL_law 699 = .ok (.ifCond .ne 15, 3) := by decide +kernel
theorem d_L_law_702 : decode cL_law 702 = .ok (.aload_n 3, 1) := by decide +kernel
theorem d_L_law_703 : decode cL_law 703 = .ok (.iconst 0, 1) := by decide +kernel
theorem d_L_law_704 : decode cL_law 704 = .ok (.laload, 1) := by decide +kernel
theorem d_L_law_705 : decode cL_law 705 = .ok (.iload 6, 2) := by decide +kernel
theorem d_L_law_707 : decode cL_law 707 = .ok (.i2l, 1) := by decide +kernel
theorem d_L_law_708 : decode cL_law 708 = .ok (.lcmp, 1) := by decide +kernel
theorem d_L_law_709 : decode cL_law 709 = .ok (.ifCond .eq 5, 3) := by decide +kernel
theorem d_L_law_712 : decode cL_law 712 = .ok (.iconst 0, 1) := by decide +kernel
theorem d_L_law_713 : decode cL_law 713 = .ok (.ireturn, 1) := by decide +kernel
theorem d_L_law_714 : decode cL_law 714 = .ok (.goto 942, 3) := by decide +kernel
theorem d_L_law_717 : decode cL_law 717 = .ok (.aload_n 1, 1) := by decide +kernel
theorem d_L_law_718 : decode cL_law 718 = .ok (.invokevirtual 116, 3) := by decide +kernel
theorem d_L_law_721 : decode cL_law 721 = .ok (.aload_n 2, 1) := by decide +kernel
theorem d_L_law_722 : decode cL_law 722 = .ok (.invokevirtual 119, 3) := by decide +kernel
theorem d_L_law_725 : decode cL_law 725 = .ok (.if_icmp .eq 931, 3) := by decide +kernel
theorem d_L_law_728 : decode cL_law 728 = .ok (.iconst 0, 1) := by decide +kernel
theorem d_L_law_729 : decode cL_law 729 = .ok (.ireturn, 1) := by decide +kernel
theorem d_L_law_730 : decode cL_law 730 = .ok (.aload_n 1, 1) := by decide +kernel
theorem d_L_law_731 : decode cL_law 731 = .ok (.aload_n 0, 1) := by decide +kernel
theorem d_L_law_732 : decode cL_law 732 = .ok (.iload 4, 2) := by decide +kernel
theorem d_L_law_734 : decode cL_law 734 = .ok (.iconst 1, 1) := by decide +kernel
theorem d_L_law_735 : decode cL_law 735 = .ok (.iadd, 1) := by decide +kernel
theorem d_L_law_736 : decode cL_law 736 = .ok (.iaload, 1) := by decide +kernel
theorem d_L_law_737 : decode cL_law 737 = .ok (.aload_n 3, 1) := by decide +kernel
theorem d_L_law_738 : decode cL_law 738 = .ok (.invokestatic 120, 3) := by decide +kernel
theorem d_L_law_741 : decode cL_law 741 = .ok (.istore 5, 2) := by decide +kernel
theorem d_L_law_743 : decode cL_law 743 = .ok (.aload_n 2, 1) := by decide +kernel
theorem d_L_law_744 : decode cL_law 744 = .ok (.aload_n 0, 1) := by decide +kernel
theorem d_L_law_745 : decode cL_law 745 = .ok (.iload 4, 2) := by decide +kernel
theorem d_L_law_747 : decode cL_law 747 = .ok (.iconst 1, 1) := by decide +kernel
theorem d_L_law_748 : decode cL_law 748 = .ok (.iadd, 1) := by decide +kernel
theorem d_L_law_749 : decode cL_law 749 = .ok (.iaload, 1) := by decide +kernel
theorem d_L_law_750 : decode cL_law 750 = .ok (.invokevirtual 123, 3) := by decide +kernel
theorem d_L_law_753 : decode cL_law 753 = .ok (.istore 6, 2) := by decide +kernel
theorem d_L_law_755 : decode cL_law 755 = .ok (.aload_n 2, 1) := by decide +kernel
theorem d_L_law_756 : decode cL_law 756 = .ok (.invokevirtual 91, 3) := by decide +kernel
theorem d_L_law_759 : decode cL_law 759 = .ok (.iload 5, 2) := by decide +kernel
theorem d_L_law_761 : decode cL_law 761 = .ok (.if_icmp .eq 5, 3) := by decide +kernel
theorem d_L_law_764 : decode cL_law 764 = .ok (.iconst 0, 1) := by decide +kernel
theorem d_L_law_765 : decode cL_law 765 = .ok (.ireturn, 1) := by decide +kernel
theorem d_L_law_766 : decode cL_law 766 = .ok (.iload 5, 2) := by decide +kernel
theorem d_L_law_768 : decode cL_law 768 = .ok (.ifCond .ne 15, 3) := by decide +kernel
theorem d_L_law_771 : decode cL_law 771 = .ok (.aload_n 3, 1) := by decide +kernel
theorem d_L_law_772 : decode cL_law 772 = .ok (.iconst 0, 1) := by decide +kernel
theorem d_L_law_773 : decode cL_law 773 = .ok (.laload, 1) := by decide +kernel
theorem d_L_law_774 : decode cL_law 774 = .ok (.iload 6, 2) := by decide +kernel
theorem d_L_law_776 : decode cL_law 776 = .ok (.i2l, 1) := by decide +kernel
theorem d_L_law_777 : decode cL_law 777 = .ok (.lcmp, 1) := by decide +kernel
theorem d_L_law_778 : decode cL_law 778 = .ok (.ifCond .eq 5, 3) := by decide +kernel
theorem d_L_law_781 : decode cL_law 781 = .ok (.iconst 0, 1) := by decide +kernel
theorem d_L_law_782 : decode cL_law 782 = .ok (.ireturn, 1) := by decide +kernel
theorem d_L_law_783 : decode cL_law 783 = .ok (.goto 873, 3) := by decide +kernel
theorem d_L_law_786 : decode cL_law 786 = .ok (.aload_n 1, 1) := by decide +kernel
theorem d_L_law_787 : decode cL_law 787 = .ok (.invokevirtual 124, 3) := by decide +kernel
theorem d_L_law_790 : decode cL_law 790 = .ok (.aload_n 2, 1) := by decide +kernel
theorem d_L_law_791 : decode cL_law 791 = .ok (.invokevirtual 127, 3) := by decide +kernel
theorem d_L_law_794 : decode cL_law 794 = .ok (.if_icmp .eq 862, 3) := by decide +kernel
theorem d_L_law_797 : decode cL_law 797 = .ok (.iconst 0, 1) := by decide +kernel
theorem d_L_law_798 : decode cL_law 798 = .ok (.ireturn, 1) := by decide +kernel
theorem d_L_law_799 : decode cL_law 799 = .ok (.aload_n 1, 1) := by decide +kernel
theorem d_L_law_800 : decode cL_law 800 = .ok (.aload_n 0, 1) := by decide +kernel
theorem d_L_law_801 : decode cL_law 801 = .ok (.iload 4, 2) := by decide +kernel
theorem d_L_law_803 : decode cL_law 803 = .ok (.iconst 1, 1) := by decide +kernel
theorem d_L_law_804 : decode cL_law 804 = .ok (.iadd, 1) := by decide +kernel
theorem d_L_law_805 : decode cL_law 805 = .ok (.iaload, 1) := by decide +kernel
theorem d_L_law_806 : decode cL_law 806 = .ok (.aload_n 0, 1) := by decide +kernel
theorem d_L_law_807 : decode cL_law 807 = .ok (.iload 4, 2) := by decide +kernel
theorem d_L_law_809 : decode cL_law 809 = .ok (.iconst 2, 1) := by decide +kernel
theorem d_L_law_810 : decode cL_law 810 = .ok (.iadd, 1) := by decide +kernel
theorem d_L_law_811 : decode cL_law 811 = .ok (.iaload, 1) := by decide +kernel
theorem d_L_law_812 : decode cL_law 812 = .ok (.aload_n 0, 1) := by decide +kernel
theorem d_L_law_813 : decode cL_law 813 = .ok (.iload 4, 2) := by decide +kernel
theorem d_L_law_815 : decode cL_law 815 = .ok (.iconst 3, 1) := by decide +kernel
theorem d_L_law_816 : decode cL_law 816 = .ok (.iadd, 1) := by decide +kernel
theorem d_L_law_817 : decode cL_law 817 = .ok (.iaload, 1) := by decide +kernel
theorem d_L_law_818 : decode cL_law 818 = .ok (.aload_n 0, 1) := by decide +kernel
theorem d_L_law_819 : decode cL_law 819 = .ok (.iload 4, 2) := by decide +kernel
theorem d_L_law_821 : decode cL_law 821 = .ok (.iconst 4, 1) := by decide +kernel
theorem d_L_law_822 : decode cL_law 822 = .ok (.iadd, 1) := by decide +kernel
theorem d_L_law_823 : decode cL_law 823 = .ok (.iaload, 1) := by decide +kernel
theorem d_L_law_824 : decode cL_law 824 = .ok (.ifCond .eq 7, 3) := by decide +kernel
theorem d_L_law_827 : decode cL_law 827 = .ok (.iconst 1, 1) := by decide +kernel
theorem d_L_law_828 : decode cL_law 828 = .ok (.goto 4, 3) := by decide +kernel
theorem d_L_law_831 : decode cL_law 831 = .ok (.iconst 0, 1) := by decide +kernel
theorem d_L_law_832 : decode cL_law 832 = .ok (.invokestatic 128, 3) := by decide +kernel
theorem d_L_law_835 : decode cL_law 835 = .ok (.istore 5, 2) := by decide +kernel
theorem d_L_law_837 : decode cL_law 837 = .ok (.aload_n 2, 1) := by decide +kernel
theorem d_L_law_838 : decode cL_law 838 = .ok (.aload_n 0, 1) := by decide +kernel
theorem d_L_law_839 : decode cL_law 839 = .ok (.iload 4, 2) := by decide +kernel
theorem d_L_law_841 : decode cL_law 841 = .ok (.iconst 1, 1) := by decide +kernel
theorem d_L_law_842 : decode cL_law 842 = .ok (.iadd, 1) := by decide +kernel
theorem d_L_law_843 : decode cL_law 843 = .ok (.iaload, 1) := by decide +kernel
theorem d_L_law_844 : decode cL_law 844 = .ok (.aload_n 0, 1) := by decide +kernel
theorem d_L_law_845 : decode cL_law 845 = .ok (.iload 4, 2) := by decide +kernel
theorem d_L_law_847 : decode cL_law 847 = .ok (.iconst 2, 1) := by decide +kernel
theorem d_L_law_848 : decode cL_law 848 = .ok (.iadd, 1) := by decide +kernel
theorem d_L_law_849 : decode cL_law 849 = .ok (.iaload, 1) := by decide +kernel
theorem d_L_law_850 : decode cL_law 850 = .ok (.aload_n 0, 1) := by decide +kernel
theorem d_L_law_851 : decode cL_law 851 = .ok (.iload 4, 2) := by decide +kernel
theorem d_L_law_853 : decode cL_law 853 = .ok (.iconst 3, 1) := by decide +kernel
theorem d_L_law_854 : decode cL_law 854 = .ok (.iadd, 1) := by decide +kernel
theorem d_L_law_855 : decode cL_law 855 = .ok (.iaload, 1) := by decide +kernel
theorem d_L_law_856 : decode cL_law 856 = .ok (.aload_n 0, 1) := by decide +kernel
theorem d_L_law_857 : decode cL_law 857 = .ok (.iload 4, 2) := by decide +kernel
theorem d_L_law_859 : decode cL_law 859 = .ok (.iconst 4, 1) := by decide +kernel
theorem d_L_law_860 : decode cL_law 860 = .ok (.iadd, 1) := by decide +kernel
theorem d_L_law_861 : decode cL_law 861 = .ok (.iaload, 1) := by decide +kernel
theorem d_L_law_862 : decode cL_law 862 = .ok (.ifCond .eq 7, 3) := by decide +kernel
theorem d_L_law_865 : decode cL_law 865 = .ok (.iconst 1, 1) := by decide +kernel
theorem d_L_law_866 : decode cL_law 866 = .ok (.goto 4, 3) := by decide +kernel
theorem d_L_law_869 : decode cL_law 869 = .ok (.iconst 0, 1) := by decide +kernel
theorem d_L_law_870 : decode cL_law 870 = .ok (.invokevirtual 131, 3) := by decide +kernel
theorem d_L_law_873 : decode cL_law 873 = .ok (.aload_n 2, 1) := by decide +kernel
theorem d_L_law_874 : decode cL_law 874 = .ok (.invokevirtual 91, 3) := by decide +kernel
theorem d_L_law_877 : decode cL_law 877 = .ok (.iload 5, 2) := by decide +kernel
theorem d_L_law_879 : decode cL_law 879 = .ok (.if_icmp .eq 5, 3) := by decide +kernel
theorem d_L_law_882 : decode cL_law 882 = .ok (.iconst 0, 1) := by decide +kernel
theorem d_L_law_883 : decode cL_law 883 = .ok (.ireturn, 1) := by decide +kernel
theorem d_L_law_884 : decode cL_law 884 = .ok (.goto 772, 3) := by decide +kernel
theorem d_L_law_887 : decode cL_law 887 = .ok (.aload_n 1, 1) := by decide +kernel
theorem d_L_law_888 : decode cL_law 888 = .ok (.aload_n 0, 1) := by decide +kernel
theorem d_L_law_889 : decode cL_law 889 = .ok (.iload 4, 2) := by decide +kernel
theorem d_L_law_891 : decode cL_law 891 = .ok (.iconst 1, 1) := by decide +kernel
theorem d_L_law_892 : decode cL_law 892 = .ok (.iadd, 1) := by decide +kernel
theorem d_L_law_893 : decode cL_law 893 = .ok (.iaload, 1) := by decide +kernel
theorem d_L_law_894 : decode cL_law 894 = .ok (.aload_n 0, 1) := by decide +kernel
theorem d_L_law_895 : decode cL_law 895 = .ok (.iload 4, 2) := by decide +kernel
theorem d_L_law_897 : decode cL_law 897 = .ok (.iconst 2, 1) := by decide +kernel
theorem d_L_law_898 : decode cL_law 898 = .ok (.iadd, 1) := by decide +kernel
theorem d_L_law_899 : decode cL_law 899 = .ok (.iaload, 1) := by decide +kernel
theorem d_L_law_900 : decode cL_law 900 = .ok (.aload_n 0, 1) := by decide +kernel
theorem d_L_law_901 : decode cL_law 901 = .ok (.iload 4, 2) := by decide +kernel
theorem d_L_law_903 : decode cL_law 903 = .ok (.iconst 3, 1) := by decide +kernel
theorem d_L_law_904 : decode cL_law 904 = .ok (.iadd, 1) := by decide +kernel
theorem d_L_law_905 : decode cL_law 905 = .ok (.iaload, 1) := by decide +kernel
theorem d_L_law_906 : decode cL_law 906 = .ok (.aload_n 0, 1) := by decide +kernel
theorem d_L_law_907 : decode cL_law 907 = .ok (.iload 4, 2) := by decide +kernel
theorem d_L_law_909 : decode cL_law 909 = .ok (.iconst 4, 1) := by decide +kernel
theorem d_L_law_910 : decode cL_law 910 = .ok (.iadd, 1) := by decide +kernel
theorem d_L_law_911 : decode cL_law 911 = .ok (.iaload, 1) := by decide +kernel
theorem d_L_law_912 : decode cL_law 912 = .ok (.ifCond .eq 7, 3) := by decide +kernel
theorem d_L_law_915 : decode cL_law 915 = .ok (.iconst 1, 1) := by decide +kernel
theorem d_L_law_916 : decode cL_law 916 = .ok (.goto 4, 3) := by decide +kernel
theorem d_L_law_919 : decode cL_law 919 = .ok (.iconst 0, 1) := by decide +kernel
theorem d_L_law_920 : decode cL_law 920 = .ok (.aload_n 3, 1) := by decide +kernel
theorem d_L_law_921 : decode cL_law 921 = .ok (.invokestatic 132, 3) := by decide +kernel
theorem d_L_law_924 : decode cL_law 924 = .ok (.istore 5, 2) := by decide +kernel
theorem d_L_law_926 : decode cL_law 926 = .ok (.aload_n 2, 1) := by decide +kernel
theorem d_L_law_927 : decode cL_law 927 = .ok (.aload_n 0, 1) := by decide +kernel
theorem d_L_law_928 : decode cL_law 928 = .ok (.iload 4, 2) := by decide +kernel
theorem d_L_law_930 : decode cL_law 930 = .ok (.iconst 1, 1) := by decide +kernel
theorem d_L_law_931 : decode cL_law 931 = .ok (.iadd, 1) := by decide +kernel
theorem d_L_law_932 : decode cL_law 932 = .ok (.iaload, 1) := by decide +kernel
theorem d_L_law_933 : decode cL_law 933 = .ok (.aload_n 0, 1) := by decide +kernel
theorem d_L_law_934 : decode cL_law 934 = .ok (.iload 4, 2) := by decide +kernel
theorem d_L_law_936 : decode cL_law 936 = .ok (.iconst 2, 1) := by decide +kernel
theorem d_L_law_937 : decode cL_law 937 = .ok (.iadd, 1) := by decide +kernel
theorem d_L_law_938 : decode cL_law 938 = .ok (.iaload, 1) := by decide +kernel
theorem d_L_law_939 : decode cL_law 939 = .ok (.aload_n 0, 1) := by decide +kernel
theorem d_L_law_940 : decode cL_law 940 = .ok (.iload 4, 2) := by decide +kernel
theorem d_L_law_942 : decode cL_law 942 = .ok (.iconst 3, 1) := by decide +kernel
theorem d_L_law_943 : decode cL_law 943 = .ok (.iadd, 1) := by decide +kernel
theorem d_L_law_944 : decode cL_law 944 = .ok (.iaload, 1) := by decide +kernel
theorem d_L_law_945 : decode cL_law 945 = .ok (.aload_n 0, 1) := by decide +kernel
theorem d_L_law_946 : decode cL_law 946 = .ok (.iload 4, 2) := by decide +kernel
theorem d_L_law_948 : decode cL_law 948 = .ok (.iconst 4, 1) := by decide +kernel
theorem d_L_law_949 : decode cL_law 949 = .ok (.iadd, 1) := by decide +kernel
theorem d_L_law_950 : decode cL_law 950 = .ok (.iaload, 1) := by decide +kernel
theorem d_L_law_951 : decode cL_law 951 = .ok (.ifCond .eq 7, 3) := by decide +kernel
theorem d_L_law_954 : decode cL_law 954 = .ok (.iconst 1, 1) := by decide +kernel
theorem d_L_law_955 : decode cL_law 955 = .ok (.goto 4, 3) := by decide +kernel
theorem d_L_law_958 : decode cL_law 958 = .ok (.iconst 0, 1) := by decide +kernel
theorem d_L_law_959 : decode cL_law 959 = .ok (.invokevirtual 134, 3) := by decide +kernel
theorem d_L_law_962 : decode cL_law 962 = .ok (.istore 6, 2) := by decide +kernel
theorem d_L_law_964 : decode cL_law 964 = .ok (.aload_n 2, 1) := by decide +kernel
theorem d_L_law_965 : decode cL_law 965 = .ok (.invokevirtual 91, 3) := by decide +kernel
theorem d_L_law_968 : decode cL_law 968 = .ok (.iload 5, 2) := by decide +kernel
theorem d_L_law_970 : decode cL_law 970 = .ok (.if_icmp .eq 5, 3) := by decide +kernel
theorem d_L_law_973 : decode cL_law 973 = .ok (.iconst 0, 1) := by decide +kernel
theorem d_L_law_974 : decode cL_law 974 = .ok (.ireturn, 1) := by decide +kernel
theorem d_L_law_975 : decode cL_law 975 = .ok (.iload 5, 2) := by decide +kernel
theorem d_L_law_977 : decode cL_law 977 = .ok (.ifCond .ne 22, 3) := by decide +kernel
theorem d_L_law_980 : decode cL_law 980 = .ok (.aload_n 3, 1) := by decide +kernel
theorem d_L_law_981 : decode cL_law 981 = .ok (.iconst 0, 1) := by decide +kernel
theorem d_L_law_982 : decode cL_law 982 = .ok (.laload, 1) := by decide +kernel
theorem d_L_law_983 : decode cL_law 983 = .ok (.iload 6, 2) := by decide +kernel
theorem d_L_law_985 : decode cL_law 985 = .ok (.ifCond .eq 7, 3) := by decide +kernel
theorem d_L_law_988 : decode cL_law 988 = .ok (.lconst 1, 1) := by decide +kernel
theorem d_L_law_989 : decode cL_law 989 = .ok (.goto 4, 3) := by decide +kernel
theorem d_L_law_992 : decode cL_law 992 = .ok (.lconst 0, 1) := by decide +kernel
theorem d_L_law_993 : decode cL_law 993 = .ok (.lcmp, 1) := by decide +kernel
theorem d_L_law_994 : decode cL_law 994 = .ok (.ifCond .eq 5, 3) := by decide +kernel
theorem d_L_law_997 : decode cL_law 997 = .ok (.iconst 0, 1) := by decide +kernel
theorem d_L_law_998 : decode cL_law 998 = .ok (.ireturn, 1) := by decide +kernel
theorem d_L_law_999 : decode cL_law 999 = .ok (.goto 657, 3) := by decide +kernel
theorem d_L_law_1002 : decode cL_law 1002 = .ok (.aload_n 1, 1) := by decide +kernel
theorem d_L_law_1003 : decode cL_law 1003 = .ok (.aload_n 0, 1) := by decide +kernel
theorem d_L_law_1004 : decode cL_law 1004 = .ok (.iload 4, 2) := by decide +kernel
theorem d_L_law_1006 : decode cL_law 1006 = .ok (.iconst 1, 1) := by decide +kernel
theorem d_L_law_1007 : decode cL_law 1007 = .ok (.iadd, 1) := by decide +kernel
theorem d_L_law_1008 : decode cL_law 1008 = .ok (.iaload, 1) := by decide +kernel
theorem d_L_law_1009 : decode cL_law 1009 = .ok (.aload_n 3, 1) := by decide +kernel
theorem d_L_law_1010 : decode cL_law 1010 = .ok (.invokestatic 135, 3) := by decide +kernel
theorem d_L_law_1013 : decode cL_law 1013 = .ok (.istore 5, 2) := by decide +kernel
theorem d_L_law_1015 : decode cL_law 1015 = .ok (.aload_n 2, 1) := by decide +kernel
theorem d_L_law_1016 : decode cL_law 1016 = .ok (.aload_n 0, 1) := by decide +kernel
theorem d_L_law_1017 : decode cL_law 1017 = .ok (.iload 4, 2) := by decide +kernel
theorem d_L_law_1019 : decode cL_law 1019 = .ok (.iconst 1, 1) := by decide +kernel
theorem d_L_law_1020 : decode cL_law 1020 = .ok (.iadd, 1) := by decide +kernel
theorem d_L_law_1021 : decode cL_law 1021 = .ok (.iaload, 1) := by decide +kernel
theorem d_L_law_1022 : decode cL_law 1022 = .ok (.invokevirtual 137, 3) := by decide +kernel
theorem d_L_law_1025 : decode cL_law 1025 = .ok (.istore 6, 2) := by decide +kernel
theorem d_L_law_1027 : decode cL_law 1027 = .ok (.aload_n 2, 1) := by decide +kernel
theorem d_L_law_1028 : decode cL_law 1028 = .ok (.invokevirtual 91, 3) := by decide +kernel
theorem d_L_law_1031 : decode cL_law 1031 = .ok (.iload 5, 2) := by decide +kernel
theorem d_L_law_1033 : decode cL_law 1033 = .ok (.if_icmp .eq 5, 3) := by decide +kernel
theorem d_L_law_1036 : decode cL_law 1036 = .ok (.iconst 0, 1) := by decide +kernel
theorem d_L_law_1037 : decode cL_law 1037 = .ok (.ireturn, 1) := by decide +kernel
theorem d_L_law_1038 : decode cL_law 1038 = .ok (.iload 5, 2) := by decide +kernel
theorem d_L_law_1040 : decode cL_law 1040 = .ok (.ifCond .ne 15, 3) := by decide +kernel
theorem d_L_law_1043 : decode cL_law 1043 = .ok (.aload_n 3, 1) := by decide +kernel
theorem d_L_law_1044 : decode cL_law 1044 = .ok (.iconst 0, 1) := by decide +kernel
theorem d_L_law_1045 : decode cL_law 1045 = .ok (.laload, 1) := by decide +kernel
theorem d_L_law_1046 : decode cL_law 1046 = .ok (.iload 6, 2) := by decide +kernel
theorem d_L_law_1048 : decode cL_law 1048 = .ok (.i2l, 1) := by decide +kernel
theorem d_L_law_1049 : decode cL_law 1049 = .ok (.lcmp, 1) := by decide +kernel
theorem d_L_law_1050 : decode cL_law 1050 = .ok (.ifCond .eq 5, 3) := by decide +kernel
theorem d_L_law_1053 : decode cL_law 1053 = .ok (.iconst 0, 1) := by decide +kernel
theorem d_L_law_1054 : decode cL_law 1054 = .ok (.ireturn, 1) := by decide +kernel
theorem d_L_law_1055 : decode cL_law 1055 = .ok (.goto 601, 3) := by decide +kernel
theorem d_L_law_1058 : decode cL_law 1058 = .ok (.aload_n 1, 1) := by decide +kernel
theorem d_L_law_1059 : decode cL_law 1059 = .ok (.aload_n 0, 1) := by decide +kernel
theorem d_L_law_1060 : decode cL_law 1060 = .ok (.iload 4, 2) := by decide +kernel
theorem d_L_law_1062 : decode cL_law 1062 = .ok (.iconst 1, 1) := by decide +kernel
theorem d_L_law_1063 : decode cL_law 1063 = .ok (.iadd, 1) := by decide +kernel
theorem d_L_law_1064 : decode cL_law 1064 = .ok (.iaload, 1) := by decide +kernel
theorem d_L_law_1065 : decode cL_law 1065 = .ok (.aload_n 0, 1) := by decide +kernel
theorem d_L_law_1066 : decode cL_law 1066 = .ok (.iload 4, 2) := by decide +kernel
theorem d_L_law_1068 : decode cL_law 1068 = .ok (.iconst 2, 1) := by decide +kernel
theorem d_L_law_1069 : decode cL_law 1069 = .ok (.iadd, 1) := by decide +kernel
theorem d_L_law_1070 : decode cL_law 1070 = .ok (.iaload, 1) := by decide +kernel
theorem d_L_law_1071 : decode cL_law 1071 = .ok (.aload_n 3, 1) := by decide +kernel
theorem d_L_law_1072 : decode cL_law 1072 = .ok (.invokestatic 138, 3) := by decide +kernel
theorem d_L_law_1075 : decode cL_law 1075 = .ok (.istore 5, 2) := by decide +kernel
theorem d_L_law_1077 : decode cL_law 1077 = .ok (.aload_n 2, 1) := by decide +kernel
theorem d_L_law_1078 : decode cL_law 1078 = .ok (.aload_n 0, 1) := by decide +kernel
theorem d_L_law_1079 : decode cL_law 1079 = .ok (.iload 4, 2) := by decide +kernel
theorem d_L_law_1081 : decode cL_law 1081 = .ok (.iconst 1, 1) := by decide +kernel
theorem d_L_law_1082 : decode cL_law 1082 = .ok (.iadd, 1) := by decide +kernel
theorem d_L_law_1083 : decode cL_law 1083 = .ok (.iaload, 1) := by decide +kernel
theorem d_L_law_1084 : decode cL_law 1084 = .ok (.aload_n 0, 1) := by decide +kernel
theorem d_L_law_1085 : decode cL_law 1085 = .ok (.iload 4, 2) := by decide +kernel
theorem d_L_law_1087 : decode cL_law 1087 = .ok (.iconst 2, 1) := by decide +kernel
theorem d_L_law_1088 : decode cL_law 1088 = .ok (.iadd, 1) := by decide +kernel
theorem d_L_law_1089 : decode cL_law 1089 = .ok (.iaload, 1) := by decide +kernel
theorem d_L_law_1090 : decode cL_law 1090 = .ok (.invokevirtual 140, 3) := by decide +kernel
theorem d_L_law_1093 : decode cL_law 1093 = .ok (.istore 6, 2) := by decide +kernel
theorem d_L_law_1095 : decode cL_law 1095 = .ok (.aload_n 2, 1) := by decide +kernel
theorem d_L_law_1096 : decode cL_law 1096 = .ok (.invokevirtual 91, 3) := by decide +kernel
theorem d_L_law_1099 : decode cL_law 1099 = .ok (.iload 5, 2) := by decide +kernel
theorem d_L_law_1101 : decode cL_law 1101 = .ok (.if_icmp .eq 5, 3) := by decide +kernel
theorem d_L_law_1104 : decode cL_law 1104 = .ok (.iconst 0, 1) := by decide +kernel
theorem d_L_law_1105 : decode cL_law 1105 = .ok (.ireturn, 1) := by decide +kernel
theorem d_L_law_1106 : decode cL_law 1106 = .ok (.iload 5, 2) := by decide +kernel
theorem d_L_law_1108 : decode cL_law 1108 = .ok (.ifCond .ne 15, 3) := by decide +kernel
theorem d_L_law_1111 : decode cL_law 1111 = .ok (.aload_n 3, 1) := by decide +kernel
theorem d_L_law_1112 : decode cL_law 1112 = .ok (.iconst 0, 1) := by decide +kernel
theorem d_L_law_1113 : decode cL_law 1113 = .ok (.laload, 1) := by decide +kernel
theorem d_L_law_1114 : decode cL_law 1114 = .ok (.iload 6, 2) := by decide +kernel
theorem d_L_law_1116 : decode cL_law 1116 = .ok (.i2l, 1) := by decide +kernel
theorem d_L_law_1117 : decode cL_law 1117 = .ok (.lcmp, 1) := by decide +kernel
theorem d_L_law_1118 : decode cL_law 1118 = .ok (.ifCond .eq 5, 3) := by decide +kernel
theorem d_L_law_1121 : decode cL_law 1121 = .ok (.iconst 0, 1) := by decide +kernel
theorem d_L_law_1122 : decode cL_law 1122 = .ok (.ireturn, 1) := by decide +kernel
theorem d_L_law_1123 : decode cL_law 1123 = .ok (.goto 533, 3) := by decide +kernel
theorem d_L_law_1126 : decode cL_law 1126 = .ok (.aload_n 1, 1) := by decide +kernel
theorem d_L_law_1127 : decode cL_law 1127 = .ok (.aload_n 0, 1) := by decide +kernel
theorem d_L_law_1128 : decode cL_law 1128 = .ok (.iload 4, 2) := by decide +kernel
theorem d_L_law_1130 : decode cL_law 1130 = .ok (.iconst 1, 1) := by decide +kernel
theorem d_L_law_1131 : decode cL_law 1131 = .ok (.iadd, 1) := by decide +kernel
theorem d_L_law_1132 : decode cL_law 1132 = .ok (.iaload, 1) := by decide +kernel
theorem d_L_law_1133 : decode cL_law 1133 = .ok (.aload_n 0, 1) := by decide +kernel
theorem d_L_law_1134 : decode cL_law 1134 = .ok (.iload 4, 2) := by decide +kernel
theorem d_L_law_1136 : decode cL_law 1136 = .ok (.iconst 2, 1) := by decide +kernel
theorem d_L_law_1137 : decode cL_law 1137 = .ok (.iadd, 1) := by decide +kernel
theorem d_L_law_1138 : decode cL_law 1138 = .ok (.iaload, 1) := by decide +kernel
theorem d_L_law_1139 : decode cL_law 1139 = .ok (.aload_n 3, 1) := by decide +kernel
