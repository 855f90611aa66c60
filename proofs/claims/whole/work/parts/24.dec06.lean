theorem dc_L_law_620 : decode cd_L_law 620 = .ok (.iload 4, 2) := by decide +kernel
theorem dc_L_law_622 : decode cd_L_law 622 = .ok (.iconst 2, 1) := by decide +kernel
theorem dc_L_law_623 : decode cd_L_law 623 = .ok (.iadd, 1) := by decide +kernel
theorem dc_L_law_624 : decode cd_L_law 624 = .ok (.iaload, 1) := by decide +kernel
theorem dc_L_law_625 : decode cd_L_law 625 = .ok (.i2l, 1) := by decide +kernel
theorem dc_L_law_626 : decode cd_L_law 626 = .ok (.ldc2_w 73, 3) := by decide +kernel
theorem dc_L_law_629 : decode cd_L_law 629 = .ok (.land, 1) := by decide +kernel
theorem dc_L_law_630 : decode cd_L_law 630 = .ok (.lor, 1) := by decide +kernel
theorem dc_L_law_631 : decode cd_L_law 631 = .ok (.aload_n 0, 1) := by decide +kernel
theorem dc_L_law_632 : decode cd_L_law 632 = .ok (.iload 4, 2) := by decide +kernel
theorem dc_L_law_634 : decode cd_L_law 634 = .ok (.iconst 3, 1) := by decide +kernel
theorem dc_L_law_635 : decode cd_L_law 635 = .ok (.iadd, 1) := by decide +kernel
theorem dc_L_law_636 : decode cd_L_law 636 = .ok (.iaload, 1) := by decide +kernel
theorem dc_L_law_637 : decode cd_L_law 637 = .ok (.aload_n 0, 1) := by decide +kernel
theorem dc_L_law_638 : decode cd_L_law 638 = .ok (.iload 4, 2) := by decide +kernel
theorem dc_L_law_640 : decode cd_L_law 640 = .ok (.iconst 4, 1) := by decide +kernel
theorem dc_L_law_641 : decode cd_L_law 641 = .ok (.iadd, 1) := by decide +kernel
theorem dc_L_law_642 : decode cd_L_law 642 = .ok (.iaload, 1) := by decide +kernel
theorem dc_L_law_643 : decode cd_L_law 643 = .ok (.aload_n 0, 1) := by decide +kernel
theorem dc_L_law_644 : decode cd_L_law 644 = .ok (.iload 4, 2) := by decide +kernel
theorem dc_L_law_646 : decode cd_L_law 646 = .ok (.iconst 5, 1) := by decide +kernel
theorem dc_L_law_647 : decode cd_L_law 647 = .ok (.iadd, 1) := by decide +kernel
theorem dc_L_law_648 : decode cd_L_law 648 = .ok (.iaload, 1) := by decide +kernel
theorem dc_L_law_649 : decode cd_L_law 649 = .ok (.i2l, 1) := by decide +kernel
theorem dc_L_law_650 : decode cd_L_law 650 = .ok (.bipush 32, 2) := by decide +kernel
theorem dc_L_law_652 : decode cd_L_law 652 = .ok (.lshl, 1) := by decide +kernel
theorem dc_L_law_653 : decode cd_L_law 653 = .ok (.aload_n 0, 1) := by decide +kernel
theorem dc_L_law_654 : decode cd_L_law 654 = .ok (.iload 4, 2) := by decide +kernel
theorem dc_L_law_656 : decode cd_L_law 656 = .ok (.bipush 6, 2) := by decide +kernel
theorem dc_L_law_658 : decode cd_L_law 658 = .ok (.iadd, 1) := by decide +kernel
theorem dc_L_law_659 : decode cd_L_law 659 = .ok (.iaload, 1) := by decide +kernel
theorem dc_L_law_660 : decode cd_L_law 660 = .ok (.i2l, 1) := by decide +kernel
theorem dc_L_law_661 : decode cd_L_law 661 = .ok (.ldc2_w 73, 3) := by decide +kernel
theorem dc_L_law_664 : decode cd_L_law 664 = .ok (.land, 1) := by decide +kernel
theorem dc_L_law_665 : decode cd_L_law 665 = .ok (.lor, 1) := by decide +kernel
theorem dc_L_law_666 : decode cd_L_law 666 = .ok (.invokevirtual 86, 3) := by decide +kernel
theorem dc_L_law_669 : decode cd_L_law 669 = .ok (.istore 6, 2) := by decide +kernel
theorem dc_L_law_671 : decode cd_L_law 671 = .ok (.aload_n 2, 1) := by decide +kernel
theorem dc_L_law_672 : decode cd_L_law 672 = .ok (.invokevirtual 57, 3) := by decide +kernel
theorem dc_L_law_675 : decode cd_L_law 675 = .ok (.iload 5, 2) := by decide +kernel
theorem dc_L_law_677 : decode cd_L_law 677 = .ok (.if_icmp .eq 5, 3) := by decide +kernel
theorem dc_L_law_680 : decode cd_L_law 680 = .ok (.iconst 0, 1) := by decide +kernel
theorem dc_L_law_681 : decode cd_L_law 681 = .ok (.ireturn, 1) := by decide +kernel
theorem dc_L_law_682 : decode cd_L_law 682 = .ok (.iload 5, 2) := by decide +kernel
theorem dc_L_law_684 : decode cd_L_law 684 = .ok (.ifCond .ne 15, 3) := by decide +kernel
theorem dc_L_law_687 : decode cd_L_law 687 = .ok (.aload_n 3, 1) := by decide +kernel
theorem dc_L_law_688 : decode cd_L_law 688 = .ok (.iconst 0, 1) := by decide +kernel
theorem dc_L_law_689 : decode cd_L_law 689 = .ok (.laload, 1) := by decide +kernel
theorem dc_L_law_690 : decode cd_L_law 690 = .ok (.iload 6, 2) := by decide +kernel
theorem dc_L_law_692 : decode cd_L_law 692 = .ok (.i2l, 1) := by decide +kernel
theorem dc_L_law_693 : decode cd_L_law 693 = .ok (.lcmp, 1) := by decide +kernel
theorem dc_L_law_694 : decode cd_L_law 694 = .ok (.ifCond .eq 5, 3) := by decide +kernel
theorem dc_L_law_697 : decode cd_L_law 697 = .ok (.iconst 0, 1) := by decide +kernel
theorem dc_L_law_698 : decode cd_L_law 698 = .ok (.ireturn, 1) := by decide +kernel
theorem dc_L_law_699 : decode cd_L_law 699 = .ok (.goto 250, 3) := by decide +kernel
theorem dc_L_law_702 : decode cd_L_law 702 = .ok (.aload_n 1, 1) := by decide +kernel
theorem dc_L_law_703 : decode cd_L_law 703 = .ok (.invokevirtual 87, 3) := by decide +kernel
theorem dc_L_law_706 : decode cd_L_law 706 = .ok (.aload_n 2, 1) := by decide +kernel
theorem dc_L_law_707 : decode cd_L_law 707 = .ok (.invokevirtual 90, 3) := by decide +kernel
theorem dc_L_law_710 : decode cd_L_law 710 = .ok (.if_icmp .eq 239, 3) := by decide +kernel
theorem dc_L_law_713 : decode cd_L_law 713 = .ok (.iconst 0, 1) := by decide +kernel
theorem dc_L_law_714 : decode cd_L_law 714 = .ok (.ireturn, 1) := by decide +kernel
theorem dc_L_law_715 : decode cd_L_law 715 = .ok (.aload_n 1, 1) := by decide +kernel
theorem dc_L_law_716 : decode cd_L_law 716 = .ok (.aload_n 0, 1) := by decide +kernel
theorem dc_L_law_717 : decode cd_L_law 717 = .ok (.iload 4, 2) := by decide +kernel
theorem dc_L_law_719 : decode cd_L_law 719 = .ok (.iconst 1, 1) := by decide +kernel
theorem dc_L_law_720 : decode cd_L_law 720 = .ok (.iadd, 1) := by decide +kernel
theorem dc_L_law_721 : decode cd_L_law 721 = .ok (.iaload, 1) := by decide +kernel
theorem dc_L_law_722 : decode cd_L_law 722 = .ok (.aload_n 3, 1) := by decide +kernel
theorem dc_L_law_723 : decode cd_L_law 723 = .ok (.invokestatic 91, 3) := by decide +kernel
theorem dc_L_law_726 : decode cd_L_law 726 = .ok (.istore 5, 2) := by decide +kernel
theorem dc_L_law_728 : decode cd_L_law 728 = .ok (.aload_n 2, 1) := by decide +kernel
theorem dc_L_law_729 : decode cd_L_law 729 = .ok (.aload_n 0, 1) := by decide +kernel
theorem dc_L_law_730 : decode cd_L_law 730 = .ok (.iload 4, 2) := by decide +kernel
theorem dc_L_law_732 : decode cd_L_law 732 = .ok (.iconst 1, 1) := by decide +kernel
theorem dc_L_law_733 : decode cd_L_law 733 = .ok (.iadd, 1) := by decide +kernel
theorem dc_L_law_734 : decode cd_L_law 734 = .ok (.iaload, 1) := by decide +kernel
theorem dc_L_law_735 : decode cd_L_law 735 = .ok (.invokevirtual 93, 3) := by decide +kernel
theorem dc_L_law_738 : decode cd_L_law 738 = .ok (.istore 6, 2) := by decide +kernel
theorem dc_L_law_740 : decode cd_L_law 740 = .ok (.aload_n 2, 1) := by decide +kernel
theorem dc_L_law_741 : decode cd_L_law 741 = .ok (.invokevirtual 57, 3) := by decide +kernel
theorem dc_L_law_744 : decode cd_L_law 744 = .ok (.iload 5, 2) := by decide +kernel
theorem dc_L_law_746 : decode cd_L_law 746 = .ok (.if_icmp .eq 5, 3) := by decide +kernel
theorem dc_L_law_749 : decode cd_L_law 749 = .ok (.iconst 0, 1) := by decide +kernel
theorem dc_L_law_750 : decode cd_L_law 750 = .ok (.ireturn, 1) := by decide +kernel
theorem dc_L_law_751 : decode cd_L_law 751 = .ok (.iload 5, 2) := by decide +kernel
theorem dc_L_law_753 : decode cd_L_law 753 = .ok (.ifCond .ne 15, 3) := by decide +kernel
theorem dc_L_law_756 : decode cd_L_law 756 = .ok (.aload_n 3, 1) := by decide +kernel
theorem dc_L_law_757 : decode cd_L_law 757 = .ok (.iconst 0, 1) := by decide +kernel
theorem dc_L_law_758 : decode cd_L_law 758 = .ok (.laload, 1) := by decide +kernel
theorem dc_L_law_759 : decode cd_L_law 759 = .ok (.iload 6, 2) := by decide +kernel
theorem dc_L_law_761 : decode cd_L_law 761 = .ok (.i2l, 1) := by decide +kernel
theorem dc_L_law_762 : decode cd_L_law 762 = .ok (.lcmp, 1) := by decide +kernel
theorem dc_L_law_763 : decode cd_L_law 763 = .ok (.ifCond .eq 5, 3) := by decide +kernel
theorem dc_L_law_766 : decode cd_L_law 766 = .ok (.iconst 0, 1) := by decide +kernel
theorem dc_L_law_767 : decode cd_L_law 767 = .ok (.ireturn, 1) := by decide +kernel
theorem dc_L_law_768 : decode cd_L_law 768 = .ok (.goto 181, 3) := by decide +kernel
theorem dc_L_law_771 : decode cd_L_law 771 = .ok (.aload_n 1, 1) := by decide +kernel
theorem dc_L_law_772 : decode cd_L_law 772 = .ok (.aload_n 0, 1) := by decide +kernel
theorem dc_L_law_773 : decode cd_L_law 773 = .ok (.iload 4, 2) := by decide +kernel
theorem dc_L_law_775 : decode cd_L_law 775 = .ok (.iconst 1, 1) := by decide +kernel
theorem dc_L_law_776 : decode cd_L_law 776 = .ok (.iadd, 1) := by decide +kernel
theorem dc_L_law_777 : decode cd_L_law 777 = .ok (.iaload, 1) := by decide +kernel
theorem dc_L_law_778 : decode cd_L_law 778 = .ok (.aload_n 3, 1) := by decide +kernel
theorem dc_L_law_779 : decode cd_L_law 779 = .ok (.invokestatic 94, 3) := by decide +kernel
theorem dc_L_law_782 : decode cd_L_law 782 = .ok (.istore 5, 2) := by decide +kernel
theorem dc_L_law_784 : decode cd_L_law 784 = .ok (.aload_n 2, 1) := by decide +kernel
theorem dc_L_law_785 : decode cd_L_law 785 = .ok (.aload_n 0, 1) := by decide +kernel
theorem dc_L_law_786 : decode cd_L_law 786 = .ok (.iload 4, 2) := by decide +kernel
theorem dc_L_law_788 : decode cd_L_law 788 = .ok (.iconst 1, 1) := by decide +kernel
theorem dc_L_law_789 : decode cd_L_law 789 = .ok (.iadd, 1) := by decide +kernel
theorem dc_L_law_790 : decode cd_L_law 790 = .ok (.iaload, 1) := by decide +kernel
theorem dc_L_law_791 : decode cd_L_law 791 = .ok (.invokevirtual 96, 3) := by decide +kernel
theorem dc_L_law_794 : decode cd_L_law 794 = .ok (.istore 6, 2) := by decide +kernel
theorem dc_L_law_796 : decode cd_L_law 796 = .ok (.aload_n 2, 1) := by decide +kernel
theorem dc_L_law_797 : decode cd_L_law 797 = .ok (.invokevirtual 57, 3) := by decide +kernel
theorem dc_L_law_800 : decode cd_L_law 800 = .ok (.iload 5, 2) := by decide +kernel
theorem dc_L_law_802 : decode cd_L_law 802 = .ok (.if_icmp .eq 5, 3) := by decide +kernel
theorem dc_L_law_805 : decode cd_L_law 805 = .ok (.iconst 0, 1) := by decide +kernel
theorem dc_L_law_806 : decode cd_L_law 806 = .ok (.ireturn, 1) := by decide +kernel
theorem dc_L_law_807 : decode cd_L_law 807 = .ok (.iload 5, 2) := by decide +kernel
theorem dc_L_law_809 : decode cd_L_law 809 = .ok (.ifCond .ne 15, 3) := by decide +kernel
theorem dc_L_law_812 : decode cd_L_law 812 = .ok (.aload_n 3, 1) := by decide +kernel
theorem dc_L_law_813 : decode cd_L_law 813 = .ok (.iconst 0, 1) := by decide +kernel
theorem dc_L_law_814 : decode cd_L_law 814 = .ok (.laload, 1) := by decide +kernel
theorem dc_L_law_815 : decode cd_L_law 815 = .ok (.iload 6, 2) := by decide +kernel
theorem dc_L_law_817 : decode cd_L_law 817 = .ok (.i2l, 1) := by decide +kernel
theorem dc_L_law_818 : decode cd_L_law 818 = .ok (.lcmp, 1) := by decide +kernel
theorem dc_L_law_819 : decode cd_L_law 819 = .ok (.ifCond .eq 5, 3) := by decide +kernel
theorem dc_L_law_822 : decode cd_L_law 822 = .ok (.iconst 0, 1) := by decide +kernel
theorem dc_L_law_823 : decode cd_L_law 823 = .ok (.ireturn, 1) := by decide +kernel
theorem dc_L_law_824 : decode cd_L_law 824 = .ok (.goto 125, 3) := by decide +kernel
theorem dc_L_law_827 : decode cd_L_law 827 = .ok (.aload_n 1, 1) := by decide +kernel
theorem dc_L_law_828 : decode cd_L_law 828 = .ok (.aload_n 0, 1) := by decide +kernel
theorem dc_L_law_829 : decode cd_L_law 829 = .ok (.iload 4, 2) := by decide +kernel
theorem dc_L_law_831 : decode cd_L_law 831 = .ok (.iconst 1, 1) := by decide +kernel
theorem dc_L_law_832 : decode cd_L_law 832 = .ok (.iadd, 1) := by decide +kernel
theorem dc_L_law_833 : decode cd_L_law 833 = .ok (.iaload, 1) := by decide +kernel
theorem dc_L_law_834 : decode cd_L_law 834 = .ok (.aload_n 3, 1) := by decide +kernel
theorem dc_L_law_835 : decode cd_L_law 835 = .ok (.invokestatic 97, 3) := by decide +kernel
theorem dc_L_law_838 : decode cd_L_law 838 = .ok (.istore 5, 2) := by decide +kernel
theorem dc_L_law_840 : decode cd_L_law 840 = .ok (.aload_n 2, 1) := by decide +kernel
theorem dc_L_law_841 : decode cd_L_law 841 = .ok (.aload_n 0, 1) := by decide +kernel
theorem dc_L_law_842 : decode cd_L_law 842 = .ok (.iload 4, 2) := by decide +kernel
theorem dc_L_law_844 : decode cd_L_law 844 = .ok (.iconst 1, 1) := by decide +kernel
theorem dc_L_law_845 : decode cd_L_law 845 = .ok (.iadd, 1) := by decide +kernel
theorem dc_L_law_846 : decode cd_L_law 846 = .ok (.iaload, 1) := by decide +kernel
theorem dc_L_law_847 : decode cd_L_law 847 = .ok (.invokevirtual 99, 3) := by decide +kernel
theorem dc_L_law_850 : decode cd_L_law 850 = .ok (.lstore 6, 2) := by decide +kernel
theorem dc_L_law_852 : decode cd_L_law 852 = .ok (.aload_n 2, 1) := by decide +kernel
theorem dc_L_law_853 : decode cd_L_law 853 = .ok (.invokevirtual 57, 3) := by decide +kernel
theorem dc_L_law_856 : decode cd_L_law 856 = .ok (.iload 5, 2) := by decide +kernel
theorem dc_L_law_858 : decode cd_L_law 858 = .ok (.if_icmp .eq 5, 3) := by decide +kernel
theorem dc_L_law_861 : decode cd_L_law 861 = .ok (.iconst 0, 1) := by decide +kernel
theorem dc_L_law_862 : decode cd_L_law 862 = .ok (.ireturn, 1) := by decide +kernel
theorem dc_L_law_863 : decode cd_L_law 863 = .ok (.iload 5, 2) := by decide +kernel
theorem dc_L_law_865 : decode cd_L_law 865 = .ok (.ifCond .ne 14, 3) := by decide +kernel
theorem dc_L_law_868 : decode cd_L_law 868 = .ok (.aload_n 3, 1) := by decide +kernel
theorem dc_L_law_869 : decode cd_L_law 869 = .ok (.iconst 0, 1) := by decide +kernel
theorem dc_L_law_870 : decode cd_L_law 870 = .ok (.laload, 1) := by decide +kernel
theorem dc_L_law_871 : decode cd_L_law 871 = .ok (.lload 6, 2) := by decide +kernel
theorem dc_L_law_873 : decode cd_L_law 873 = .ok (.lcmp, 1) := by decide +kernel
theorem dc_L_law_874 : decode cd_L_law 874 = .ok (.ifCond .eq 5, 3) := by decide +kernel
theorem dc_L_law_877 : decode cd_L_law 877 = .ok (.iconst 0, 1) := by decide +kernel
theorem dc_L_law_878 : decode cd_L_law 878 = .ok (.ireturn, 1) := by decide +kernel
theorem dc_L_law_879 : decode cd_L_law 879 = .ok (.goto 70, 3) := by decide +kernel
theorem dc_L_law_882 : decode cd_L_law 882 = .ok (.aload_n 1, 1) := by decide +kernel
theorem dc_L_law_883 : decode cd_L_law 883 = .ok (.aload_n 0, 1) := by decide +kernel
theorem dc_L_law_884 : decode cd_L_law 884 = .ok (.iload 4, 2) := by decide +kernel
theorem dc_L_law_886 : decode cd_L_law 886 = .ok (.iconst 1, 1) := by decide +kernel
theorem dc_L_law_887 : decode cd_L_law 887 = .ok (.iadd, 1) := by decide +kernel
theorem dc_L_law_888 : decode cd_L_law 888 = .ok (.iaload, 1) := by decide +kernel
theorem dc_L_law_889 : decode cd_L_law 889 = .ok (.aload_n 0, 1) := by decide +kernel
theorem dc_L_law_890 : decode cd_L_law 890 = .ok (.iload 4, 2) := by decide +kernel
theorem dc_L_law_892 : decode cd_L_law 892 = .ok (.iconst 2, 1) := by decide +kernel
theorem dc_L_law_893 : decode cd_L_law 893 = .ok (.iadd, 1) := by decide +kernel
theorem dc_L_law_894 : decode cd_L_law 894 = .ok (.iaload, 1) := by decide +kernel
theorem dc_L_law_895 : decode cd_L_law 895 = .ok (.aload_n 3, 1) := by decide +kernel
theorem dc_L_law_896 : decode cd_L_law 896 = .ok (.invokestatic 100, 3) := by decide +kernel
theorem dc_L_law_899 : decode cd_L_law 899 = .ok (.istore 5, 2) := by decide +kernel
theorem dc_L_law_901 : decode cd_L_law 901 = .ok (.aload_n 2, 1) := by decide +kernel
theorem dc_L_law_902 : decode cd_L_law 902 = .ok (.aload_n 0, 1) := by decide +kernel
theorem dc_L_law_903 : decode cd_L_law 903 = .ok (.iload 4, 2) := by decide +kernel
theorem dc_L_law_905 : decode cd_L_law 905 = .ok (.iconst 1, 1) := by decide +kernel
theorem dc_L_law_906 : decode cd_L_law 906 = .ok (.iadd, 1) := by decide +kernel
theorem dc_L_law_907 : decode cd_L_law 907 = .ok (.iaload, 1) := by decide +kernel
theorem dc_L_law_908 : decode cd_L_law 908 = .ok (.aload_n 0, 1) := by decide +kernel
theorem dc_L_law_909 : decode cd_L_law 909 = .ok (.iload 4, 2) := by decide +kernel
theorem dc_L_law_911 : decode cd_L_law 911 = .ok (.iconst 2, 1) := by decide +kernel
theorem dc_L_law_912 : decode cd_L_law 912 = .ok (.iadd, 1) := by decide +kernel
theorem dc_L_law_913 : decode cd_L_law 913 = .ok (.iaload, 1) := by decide +kernel
theorem dc_L_law_914 : decode cd_L_law 914 = .ok (.invokevirtual 102, 3) := by decide +kernel
theorem dc_L_law_917 : decode cd_L_law 917 = .ok (.lstore 6, 2) := by decide +kernel
theorem dc_L_law_919 : decode cd_L_law 919 = .ok (.aload_n 2, 1) := by decide +kernel
theorem dc_L_law_920 : decode cd_L_law 920 = .ok (.invokevirtual 57, 3) := by decide +kernel
theorem dc_L_law_923 : decode cd_L_law 923 = .ok (.iload 5, 2) := by decide +kernel
theorem dc_L_law_925 : decode cd_L_law 925 = .ok (.if_icmp .eq 5, 3) := by decide +kernel
theorem dc_L_law_928 : decode cd_L_law 928 = .ok (.iconst 0, 1) := by decide +kernel
theorem dc_L_law_929 : decode cd_L_law 929 = .ok (.ireturn, 1) := by decide +kernel
theorem dc_L_law_930 : decode cd_L_law 930 = .ok (.iload 5, 2) := by decide +kernel
theorem dc_L_law_932 : decode cd_L_law 932 = .ok (.ifCond .ne 14, 3) := by decide +kernel
theorem dc_L_law_935 : decode cd_L_law 935 = .ok (.aload_n 3, 1) := by decide +kernel
theorem dc_L_law_936 : decode cd_L_law 936 = .ok (.iconst 0, 1) := by decide +kernel
theorem dc_L_law_937 : decode cd_L_law 937 = .ok (.laload, 1) := by decide +kernel
theorem dc_L_law_938 : decode cd_L_law 938 = .ok (.lload 6, 2) := by decide +kernel
theorem dc_L_law_940 : decode cd_L_law 940 = .ok (.lcmp, 1) := by decide +kernel
theorem dc_L_law_941 : decode cd_L_law 941 = .ok (.ifCond .eq 5, 3) := by decide +kernel
theorem dc_L_law_944 : decode cd_L_law 944 = .ok (.iconst 0, 1) := by decide +kernel
theorem dc_L_law_945 : decode cd_L_law 945 = .ok (.ireturn, 1) := by decide +kernel
theorem dc_L_law_946 : decode cd_L_law 946 = .ok (.goto 3, 3) := by decide +kernel
theorem dc_L_law_949 : decode cd_L_law 949 = .ok (.iinc 4 9, 3) := by decide +kernel
theorem dc_L_law_952 : decode cd_L_law 952 = .ok (.goto (-929), 3) := by decide +kernel
theorem dc_L_law_955 : decode cd_L_law 955 = .ok (.iconst 1, 1) := by decide +kernel
theorem dc_L_law_956 : decode cd_L_law 956 = .ok (.ireturn, 1) := by decide +kernel
