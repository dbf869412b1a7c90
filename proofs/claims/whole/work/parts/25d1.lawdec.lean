theorem dL_622 : decode code 622 = .ok (.iadd, 1) := by decide +kernel
theorem dL_623 : decode code 623 = .ok (.iaload, 1) := by decide +kernel
theorem dL_624 : decode code 624 = .ok (.aload_n 0, 1) := by decide +kernel
theorem dL_625 : decode code 625 = .ok (.iload_n 3, 1) := by decide +kernel
theorem dL_626 : decode code 626 = .ok (.iconst 4, 1) := by decide +kernel
theorem dL_627 : decode code 627 = .ok (.iadd, 1) := by decide +kernel
theorem dL_628 : decode code 628 = .ok (.iaload, 1) := by decide +kernel
theorem dL_629 : decode code 629 = .ok (.aload_n 0, 1) := by decide +kernel
theorem dL_630 : decode code 630 = .ok (.iload_n 3, 1) := by decide +kernel
theorem dL_631 : decode code 631 = .ok (.iconst 5, 1) := by decide +kernel
theorem dL_632 : decode code 632 = .ok (.iadd, 1) := by decide +kernel
theorem dL_633 : decode code 633 = .ok (.iaload, 1) := by decide +kernel
theorem dL_634 : decode code 634 = .ok (.invokevirtual 59, 3) := by decide +kernel
theorem dL_637 : decode code 637 = .ok (.aload_n 2, 1) := by decide +kernel
theorem dL_638 : decode code 638 = .ok (.aload_n 0, 1) := by decide +kernel
theorem dL_639 : decode code 639 = .ok (.iload_n 3, 1) := by decide +kernel
theorem dL_640 : decode code 640 = .ok (.iconst 1, 1) := by decide +kernel
theorem dL_641 : decode code 641 = .ok (.iadd, 1) := by decide +kernel
theorem dL_642 : decode code 642 = .ok (.iaload, 1) := by decide +kernel
theorem dL_643 : decode code 643 = .ok (.aload_n 0, 1) := by decide +kernel
theorem dL_644 : decode code 644 = .ok (.iload_n 3, 1) := by decide +kernel
theorem dL_645 : decode code 645 = .ok (.iconst 2, 1) := by decide +kernel
theorem dL_646 : decode code 646 = .ok (.iadd, 1) := by decide +kernel
theorem dL_647 : decode code 647 = .ok (.iaload, 1) := by decide +kernel
theorem dL_648 : decode code 648 = .ok (.aload_n 0, 1) := by decide +kernel
theorem dL_649 : decode code 649 = .ok (.iload_n 3, 1) := by decide +kernel
theorem dL_650 : decode code 650 = .ok (.iconst 3, 1) := by decide +kernel
theorem dL_651 : decode code 651 = .ok (.iadd, 1) := by decide +kernel
theorem dL_652 : decode code 652 = .ok (.iaload, 1) := by decide +kernel
theorem dL_653 : decode code 653 = .ok (.aload_n 0, 1) := by decide +kernel
theorem dL_654 : decode code 654 = .ok (.iload_n 3, 1) := by decide +kernel
theorem dL_655 : decode code 655 = .ok (.iconst 4, 1) := by decide +kernel
theorem dL_656 : decode code 656 = .ok (.iadd, 1) := by decide +kernel
theorem dL_657 : decode code 657 = .ok (.iaload, 1) := by decide +kernel
theorem dL_658 : decode code 658 = .ok (.aload_n 0, 1) := by decide +kernel
theorem dL_659 : decode code 659 = .ok (.iload_n 3, 1) := by decide +kernel
theorem dL_660 : decode code 660 = .ok (.iconst 5, 1) := by decide +kernel
theorem dL_661 : decode code 661 = .ok (.iadd, 1) := by decide +kernel
theorem dL_662 : decode code 662 = .ok (.iaload, 1) := by decide +kernel
theorem dL_663 : decode code 663 = .ok (.invokevirtual 62, 3) := by decide +kernel
theorem dL_666 : decode code 666 = .ok (.if_icmp .eq 882, 3) := by decide +kernel
theorem dL_669 : decode code 669 = .ok (.iconst 0, 1) := by decide +kernel
theorem dL_670 : decode code 670 = .ok (.ireturn, 1) := by decide +kernel
theorem dL_671 : decode code 671 = .ok (.aload_n 1, 1) := by decide +kernel
theorem dL_672 : decode code 672 = .ok (.aload_n 0, 1) := by decide +kernel
theorem dL_673 : decode code 673 = .ok (.iload_n 3, 1) := by decide +kernel
theorem dL_674 : decode code 674 = .ok (.iconst 1, 1) := by decide +kernel
theorem dL_675 : decode code 675 = .ok (.iadd, 1) := by decide +kernel
theorem dL_676 : decode code 676 = .ok (.iaload, 1) := by decide +kernel
theorem dL_677 : decode code 677 = .ok (.invokevirtual 63, 3) := by decide +kernel
theorem dL_680 : decode code 680 = .ok (.aload_n 2, 1) := by decide +kernel
theorem dL_681 : decode code 681 = .ok (.aload_n 0, 1) := by decide +kernel
theorem dL_682 : decode code 682 = .ok (.iload_n 3, 1) := by decide +kernel
theorem dL_683 : decode code 683 = .ok (.iconst 1, 1) := by decide +kernel
theorem dL_684 : decode code 684 = .ok (.iadd, 1) := by decide +kernel
theorem dL_685 : decode code 685 = .ok (.iaload, 1) := by decide +kernel
theorem dL_686 : decode code 686 = .ok (.invokevirtual 66, 3) := by decide +kernel
theorem dL_689 : decode code 689 = .ok (.if_icmp .eq 859, 3) := by decide +kernel
theorem dL_692 : decode code 692 = .ok (.iconst 0, 1) := by decide +kernel
theorem dL_693 : decode code 693 = .ok (.ireturn, 1) := by decide +kernel
theorem dL_694 : decode code 694 = .ok (.aload_n 1, 1) := by decide +kernel
theorem dL_695 : decode code 695 = .ok (.invokevirtual 67, 3) := by decide +kernel
theorem dL_698 : decode code 698 = .ok (.aload_n 2, 1) := by decide +kernel
theorem dL_699 : decode code 699 = .ok (.invokevirtual 71, 3) := by decide +kernel
theorem dL_702 : decode code 702 = .ok (.if_icmp .eq 846, 3) := by decide +kernel
theorem dL_705 : decode code 705 = .ok (.iconst 0, 1) := by decide +kernel
theorem dL_706 : decode code 706 = .ok (.ireturn, 1) := by decide +kernel
theorem dL_707 : decode code 707 = .ok (.aload_n 1, 1) := by decide +kernel
theorem dL_708 : decode code 708 = .ok (.invokevirtual 72, 3) := by decide +kernel
theorem dL_711 : decode code 711 = .ok (.aload_n 2, 1) := by decide +kernel
theorem dL_712 : decode code 712 = .ok (.invokevirtual 75, 3) := by decide +kernel
theorem dL_715 : decode code 715 = .ok (.if_icmp .eq 833, 3) := by decide +kernel
theorem dL_718 : decode code 718 = .ok (.iconst 0, 1) := by decide +kernel
theorem dL_719 : decode code 719 = .ok (.ireturn, 1) := by decide +kernel
theorem dL_720 : decode code 720 = .ok (.aload_n 1, 1) := by decide +kernel
theorem dL_721 : decode code 721 = .ok (.aload_n 0, 1) := by decide +kernel
theorem dL_722 : decode code 722 = .ok (.iload_n 3, 1) := by decide +kernel
theorem dL_723 : decode code 723 = .ok (.iconst 1, 1) := by decide +kernel
theorem dL_724 : decode code 724 = .ok (.iadd, 1) := by decide +kernel
theorem dL_725 : decode code 725 = .ok (.iaload, 1) := by decide +kernel
theorem dL_726 : decode code 726 = .ok (.aload_n 0, 1) := by decide +kernel
theorem dL_727 : decode code 727 = .ok (.iload_n 3, 1) := by decide +kernel
theorem dL_728 : decode code 728 = .ok (.iconst 2, 1) := by decide +kernel
theorem dL_729 : decode code 729 = .ok (.iadd, 1) := by decide +kernel
theorem dL_730 : decode code 730 = .ok (.iaload, 1) := by decide +kernel
theorem dL_731 : decode code 731 = .ok (.aload_n 0, 1) := by decide +kernel
theorem dL_732 : decode code 732 = .ok (.iload_n 3, 1) := by decide +kernel
theorem dL_733 : decode code 733 = .ok (.iconst 3, 1) := by decide +kernel
theorem dL_734 : decode code 734 = .ok (.iadd, 1) := by decide +kernel
theorem dL_735 : decode code 735 = .ok (.iaload, 1) := by decide +kernel
theorem dL_736 : decode code 736 = .ok (.invokevirtual 76, 3) := by decide +kernel
theorem dL_739 : decode code 739 = .ok (.aload_n 2, 1) := by decide +kernel
theorem dL_740 : decode code 740 = .ok (.aload_n 0, 1) := by decide +kernel
theorem dL_741 : decode code 741 = .ok (.iload_n 3, 1) := by decide +kernel
theorem dL_742 : decode code 742 = .ok (.iconst 1, 1) := by decide +kernel
theorem dL_743 : decode code 743 = .ok (.iadd, 1) := by decide +kernel
theorem dL_744 : decode code 744 = .ok (.iaload, 1) := by decide +kernel
theorem dL_745 : decode code 745 = .ok (.aload_n 0, 1) := by decide +kernel
theorem dL_746 : decode code 746 = .ok (.iload_n 3, 1) := by decide +kernel
theorem dL_747 : decode code 747 = .ok (.iconst 2, 1) := by decide +kernel
theorem dL_748 : decode code 748 = .ok (.iadd, 1) := by decide +kernel
theorem dL_749 : decode code 749 = .ok (.iaload, 1) := by decide +kernel
theorem dL_750 : decode code 750 = .ok (.aload_n 0, 1) := by decide +kernel
theorem dL_751 : decode code 751 = .ok (.iload_n 3, 1) := by decide +kernel
theorem dL_752 : decode code 752 = .ok (.iconst 3, 1) := by decide +kernel
theorem dL_753 : decode code 753 = .ok (.iadd, 1) := by decide +kernel
theorem dL_754 : decode code 754 = .ok (.iaload, 1) := by decide +kernel
theorem dL_755 : decode code 755 = .ok (.invokevirtual 80, 3) := by decide +kernel
theorem dL_758 : decode code 758 = .ok (.if_icmp .eq 790, 3) := by decide +kernel
theorem dL_761 : decode code 761 = .ok (.iconst 0, 1) := by decide +kernel
theorem dL_762 : decode code 762 = .ok (.ireturn, 1) := by decide +kernel
theorem dL_763 : decode code 763 = .ok (.aload_n 1, 1) := by decide +kernel
theorem dL_764 : decode code 764 = .ok (.aload_n 0, 1) := by decide +kernel
theorem dL_765 : decode code 765 = .ok (.iload_n 3, 1) := by decide +kernel
theorem dL_766 : decode code 766 = .ok (.iconst 1, 1) := by decide +kernel
theorem dL_767 : decode code 767 = .ok (.iadd, 1) := by decide +kernel
theorem dL_768 : decode code 768 = .ok (.iaload, 1) := by decide +kernel
theorem dL_769 : decode code 769 = .ok (.invokevirtual 81, 3) := by decide +kernel
theorem dL_772 : decode code 772 = .ok (.aload_n 2, 1) := by decide +kernel
theorem dL_773 : decode code 773 = .ok (.aload_n 0, 1) := by decide +kernel
theorem dL_774 : decode code 774 = .ok (.iload_n 3, 1) := by decide +kernel
theorem dL_775 : decode code 775 = .ok (.iconst 1, 1) := by decide +kernel
theorem dL_776 : decode code 776 = .ok (.iadd, 1) := by decide +kernel
theorem dL_777 : decode code 777 = .ok (.iaload, 1) := by decide +kernel
theorem dL_778 : decode code 778 = .ok (.invokevirtual 84, 3) := by decide +kernel
theorem dL_781 : decode code 781 = .ok (.if_icmp .eq 767, 3) := by decide +kernel
theorem dL_784 : decode code 784 = .ok (.iconst 0, 1) := by decide +kernel
theorem dL_785 : decode code 785 = .ok (.ireturn, 1) := by decide +kernel
theorem dL_786 : decode code 786 = .ok (.aload_n 1, 1) := by decide +kernel
theorem dL_787 : decode code 787 = .ok (.aload_n 0, 1) := by decide +kernel
theorem dL_788 : decode code 788 = .ok (.iload_n 3, 1) := by decide +kernel
theorem dL_789 : decode code 789 = .ok (.iconst 1, 1) := by decide +kernel
theorem dL_790 : decode code 790 = .ok (.iadd, 1) := by decide +kernel
theorem dL_791 : decode code 791 = .ok (.iaload, 1) := by decide +kernel
theorem dL_792 : decode code 792 = .ok (.aload_n 0, 1) := by decide +kernel
theorem dL_793 : decode code 793 = .ok (.iload_n 3, 1) := by decide +kernel
theorem dL_794 : decode code 794 = .ok (.iconst 2, 1) := by decide +kernel
theorem dL_795 : decode code 795 = .ok (.iadd, 1) := by decide +kernel
theorem dL_796 : decode code 796 = .ok (.iaload, 1) := by decide +kernel
theorem dL_797 : decode code 797 = .ok (.invokevirtual 85, 3) := by decide +kernel
theorem dL_800 : decode code 800 = .ok (.aload_n 2, 1) := by decide +kernel
theorem dL_801 : decode code 801 = .ok (.aload_n 0, 1) := by decide +kernel
theorem dL_802 : decode code 802 = .ok (.iload_n 3, 1) := by decide +kernel
theorem dL_803 : decode code 803 = .ok (.iconst 1, 1) := by decide +kernel
theorem dL_804 : decode code 804 = .ok (.iadd, 1) := by decide +kernel
theorem dL_805 : decode code 805 = .ok (.iaload, 1) := by decide +kernel
theorem dL_806 : decode code 806 = .ok (.aload_n 0, 1) := by decide +kernel
theorem dL_807 : decode code 807 = .ok (.iload_n 3, 1) := by decide +kernel
theorem dL_808 : decode code 808 = .ok (.iconst 2, 1) := by decide +kernel
theorem dL_809 : decode code 809 = .ok (.iadd, 1) := by decide +kernel
theorem dL_810 : decode code 810 = .ok (.iaload, 1) := by decide +kernel
theorem dL_811 : decode code 811 = .ok (.invokevirtual 89, 3) := by decide +kernel
theorem dL_814 : decode code 814 = .ok (.if_icmp .eq 734, 3) := by decide +kernel
theorem dL_817 : decode code 817 = .ok (.iconst 0, 1) := by decide +kernel
theorem dL_818 : decode code 818 = .ok (.ireturn, 1) := by decide +kernel
theorem dL_819 : decode code 819 = .ok (.aload_n 1, 1) := by decide +kernel
theorem dL_820 : decode code 820 = .ok (.aload_n 0, 1) := by decide +kernel
theorem dL_821 : decode code 821 = .ok (.iload_n 3, 1) := by decide +kernel
theorem dL_822 : decode code 822 = .ok (.iconst 1, 1) := by decide +kernel
theorem dL_823 : decode code 823 = .ok (.iadd, 1) := by decide +kernel
theorem dL_824 : decode code 824 = .ok (.iaload, 1) := by decide +kernel
theorem dL_825 : decode code 825 = .ok (.aload_n 0, 1) := by decide +kernel
theorem dL_826 : decode code 826 = .ok (.iload_n 3, 1) := by decide +kernel
theorem dL_827 : decode code 827 = .ok (.iconst 2, 1) := by decide +kernel
theorem dL_828 : decode code 828 = .ok (.iadd, 1) := by decide +kernel
theorem dL_829 : decode code 829 = .ok (.iaload, 1) := by decide +kernel
theorem dL_830 : decode code 830 = .ok (.aload_n 0, 1) := by decide +kernel
theorem dL_831 : decode code 831 = .ok (.iload_n 3, 1) := by decide +kernel
theorem dL_832 : decode code 832 = .ok (.iconst 3, 1) := by decide +kernel
theorem dL_833 : decode code 833 = .ok (.iadd, 1) := by decide +kernel
theorem dL_834 : decode code 834 = .ok (.iaload, 1) := by decide +kernel
theorem dL_835 : decode code 835 = .ok (.invokevirtual 90, 3) := by decide +kernel
theorem dL_838 : decode code 838 = .ok (.aload_n 2, 1) := by decide +kernel
theorem dL_839 : decode code 839 = .ok (.aload_n 0, 1) := by decide +kernel
theorem dL_840 : decode code 840 = .ok (.iload_n 3, 1) := by decide +kernel
theorem dL_841 : decode code 841 = .ok (.iconst 1, 1) := by decide +kernel
theorem dL_842 : decode code 842 = .ok (.iadd, 1) := by decide +kernel
theorem dL_843 : decode code 843 = .ok (.iaload, 1) := by decide +kernel
theorem dL_844 : decode code 844 = .ok (.aload_n 0, 1) := by decide +kernel
theorem dL_845 : decode code 845 = .ok (.iload_n 3, 1) := by decide +kernel
theorem dL_846 : decode code 846 = .ok (.iconst 2, 1) := by decide +kernel
theorem dL_847 : decode code 847 = .ok (.iadd, 1) := by decide +kernel
theorem dL_848 : decode code 848 = .ok (.iaload, 1) := by decide +kernel
theorem dL_849 : decode code 849 = .ok (.aload_n 0, 1) := by decide +kernel
theorem dL_850 : decode code 850 = .ok (.iload_n 3, 1) := by decide +kernel
theorem dL_851 : decode code 851 = .ok (.iconst 3, 1) := by decide +kernel
theorem dL_852 : decode code 852 = .ok (.iadd, 1) := by decide +kernel
theorem dL_853 : decode code 853 = .ok (.iaload, 1) := by decide +kernel
theorem dL_854 : decode code 854 = .ok (.invokevirtual 93, 3) := by decide +kernel
theorem dL_857 : decode code 857 = .ok (.if_icmp .eq 691, 3) := by decide +kernel
theorem dL_860 : decode code 860 = .ok (.iconst 0, 1) := by decide +kernel
theorem dL_861 : decode code 861 = .ok (.ireturn, 1) := by decide +kernel
theorem dL_862 : decode code 862 = .ok (.aload_n 1, 1) := by decide +kernel
theorem dL_863 : decode code 863 = .ok (.aload_n 0, 1) := by decide +kernel
theorem dL_864 : decode code 864 = .ok (.iload_n 3, 1) := by decide +kernel
theorem dL_865 : decode code 865 = .ok (.iconst 1, 1) := by decide +kernel
theorem dL_866 : decode code 866 = .ok (.iadd, 1) := by decide +kernel
theorem dL_867 : decode code 867 = .ok (.iaload, 1) := by decide +kernel
theorem dL_868 : decode code 868 = .ok (.aload_n 0, 1) := by decide +kernel
theorem dL_869 : decode code 869 = .ok (.iload_n 3, 1) := by decide +kernel
theorem dL_870 : decode code 870 = .ok (.iconst 2, 1) := by decide +kernel
theorem dL_871 : decode code 871 = .ok (.iadd, 1) := by decide +kernel
theorem dL_872 : decode code 872 = .ok (.iaload, 1) := by decide +kernel
theorem dL_873 : decode code 873 = .ok (.aload_n 0, 1) := by decide +kernel
theorem dL_874 : decode code 874 = .ok (.iload_n 3, 1) := by decide +kernel
theorem dL_875 : decode code 875 = .ok (.iconst 3, 1) := by decide +kernel
theorem dL_876 : decode code 876 = .ok (.iadd, 1) := by decide +kernel
theorem dL_877 : decode code 877 = .ok (.iaload, 1) := by decide +kernel
theorem dL_878 : decode code 878 = .ok (.invokevirtual 94, 3) := by decide +kernel
theorem dL_881 : decode code 881 = .ok (.aload_n 2, 1) := by decide +kernel
theorem dL_882 : decode code 882 = .ok (.aload_n 0, 1) := by decide +kernel
theorem dL_883 : decode code 883 = .ok (.iload_n 3, 1) := by decide +kernel
theorem dL_884 : decode code 884 = .ok (.iconst 1, 1) := by decide +kernel
theorem dL_885 : decode code 885 = .ok (.iadd, 1) := by decide +kernel
theorem dL_886 : decode code 886 = .ok (.iaload, 1) := by decide +kernel
theorem dL_887 : decode code 887 = .ok (.aload_n 0, 1) := by decide +kernel
theorem dL_888 : decode code 888 = .ok (.iload_n 3, 1) := by decide +kernel
theorem dL_889 : decode code 889 = .ok (.iconst 2, 1) := by decide +kernel
theorem dL_890 : decode code 890 = .ok (.iadd, 1) := by decide +kernel
theorem dL_891 : decode code 891 = .ok (.iaload, 1) := by decide +kernel
theorem dL_892 : decode code 892 = .ok (.aload_n 0, 1) := by decide +kernel
theorem dL_893 : decode code 893 = .ok (.iload_n 3, 1) := by decide +kernel
theorem dL_894 : decode code 894 = .ok (.iconst 3, 1) := by decide +kernel
theorem dL_895 : decode code 895 = .ok (.iadd, 1) := by decide +kernel
theorem dL_896 : decode code 896 = .ok (.iaload, 1) := by decide +kernel
theorem dL_897 : decode code 897 = .ok (.invokevirtual 97, 3) := by decide +kernel
theorem dL_900 : decode code 900 = .ok (.if_icmp .eq 648, 3) := by decide +kernel
theorem dL_903 : decode code 903 = .ok (.iconst 0, 1) := by decide +kernel
theorem dL_904 : decode code 904 = .ok (.ireturn, 1) := by decide +kernel
theorem dL_905 : decode code 905 = .ok (.aload_n 1, 1) := by decide +kernel
theorem dL_906 : decode code 906 = .ok (.aload_n 0, 1) := by decide +kernel
theorem dL_907 : decode code 907 = .ok (.iload_n 3, 1) := by decide +kernel
theorem dL_908 : decode code 908 = .ok (.iconst 1, 1) := by decide +kernel
theorem dL_909 : decode code 909 = .ok (.iadd, 1) := by decide +kernel
theorem dL_910 : decode code 910 = .ok (.iaload, 1) := by decide +kernel
theorem dL_911 : decode code 911 = .ok (.aload_n 0, 1) := by decide +kernel
theorem dL_912 : decode code 912 = .ok (.iload_n 3, 1) := by decide +kernel
theorem dL_913 : decode code 913 = .ok (.iconst 2, 1) := by decide +kernel
theorem dL_914 : decode code 914 = .ok (.iadd, 1) := by decide +kernel
theorem dL_915 : decode code 915 = .ok (.iaload, 1) := by decide +kernel
theorem dL_916 : decode code 916 = .ok (.aload_n 0, 1) := by decide +kernel
theorem dL_917 : decode code 917 = .ok (.iload_n 3, 1) := by decide +kernel
theorem dL_918 : decode code 918 = .ok (.iconst 3, 1) := by decide +kernel
theorem dL_919 : decode code 919 = .ok (.iadd, 1) := by decide +kernel
theorem dL_920 : decode code 920 = .ok (.iaload, 1) := by decide +kernel
theorem dL_921 : decode code 921 = .ok (.invokevirtual 98, 3) := by decide +kernel
theorem dL_924 : decode code 924 = .ok (.aload_n 2, 1) := by decide +kernel
theorem dL_925 : decode code 925 = .ok (.aload_n 0, 1) := by decide +kernel
theorem dL_926 : decode code 926 = .ok (.iload_n 3, 1) := by decide +kernel
theorem dL_927 : decode code 927 = .ok (.iconst 1, 1) := by decide +kernel
theorem dL_928 : decode code 928 = .ok (.iadd, 1) := by decide +kernel
theorem dL_929 : decode code 929 = .ok (.iaload, 1) := by decide +kernel
theorem dL_930 : decode code 930 = .ok (.aload_n 0, 1) := by decide +kernel
theorem dL_931 : decode code 931 = .ok (.iload_n 3, 1) := by decide +kernel
theorem dL_932 : decode code 932 = .ok (.iconst 2, 1) := by decide +kernel
theorem dL_933 : decode code 933 = .ok (.iadd, 1) := by decide +kernel
theorem dL_934 : decode code 934 = .ok (.iaload, 1) := by decide +kernel
theorem dL_935 : decode code 935 = .ok (.aload_n 0, 1) := by decide +kernel
theorem dL_936 : decode code 936 = .ok (.iload_n 3, 1) := by decide +kernel
theorem dL_937 : decode code 937 = .ok (.iconst 3, 1) := by decide +kernel
theorem dL_938 : decode code 938 = .ok (.iadd, 1) := by decide +kernel
theorem dL_939 : decode code 939 = .ok (.iaload, 1) := by decide +kernel
theorem dL_940 : decode code 940 = .ok (.invokevirtual 101, 3) := by decide +kernel
theorem dL_943 : decode code 943 = .ok (.if_icmp .eq 605, 3) := by decide +kernel
theorem dL_946 : decode code 946 = .ok (.iconst 0, 1) := by decide +kernel
theorem dL_947 : decode code 947 = .ok (.ireturn, 1) := by decide +kernel
theorem dL_948 : decode code 948 = .ok (.aload_n 1, 1) := by decide +kernel
theorem dL_949 : decode code 949 = .ok (.aload_n 0, 1) := by decide +kernel
theorem dL_950 : decode code 950 = .ok (.iload_n 3, 1) := by decide +kernel
theorem dL_951 : decode code 951 = .ok (.iconst 1, 1) := by decide +kernel
theorem dL_952 : decode code 952 = .ok (.iadd, 1) := by decide +kernel
theorem dL_953 : decode code 953 = .ok (.iaload, 1) := by decide +kernel
theorem dL_954 : decode code 954 = .ok (.invokevirtual 102, 3) := by decide +kernel
theorem dL_957 : decode code 957 = .ok (.aload_n 2, 1) := by decide +kernel
theorem dL_958 : decode code 958 = .ok (.aload_n 0, 1) := by decide +kernel
theorem dL_959 : decode code 959 = .ok (.iload_n 3, 1) := by decide +kernel
theorem dL_960 : decode code 960 = .ok (.iconst 1, 1) := by decide +kernel
theorem dL_961 : decode code 961 = .ok (.iadd, 1) := by decide +kernel
theorem dL_962 : decode code 962 = .ok (.iaload, 1) := by decide +kernel
theorem dL_963 : decode code 963 = .ok (.invokevirtual 105, 3) := by decide +kernel
theorem dL_966 : decode code 966 = .ok (.if_icmp .eq 582, 3) := by decide +kernel
theorem dL_969 : decode code 969 = .ok (.iconst 0, 1) := by decide +kernel
theorem dL_970 : decode code 970 = .ok (.ireturn, 1) := by decide +kernel
theorem dL_971 : decode code 971 = .ok (.aload_n 1, 1) := by decide +kernel
theorem dL_972 : decode code 972 = .ok (.aload_n 0, 1) := by decide +kernel
theorem dL_973 : decode code 973 = .ok (.iload_n 3, 1) := by decide +kernel
theorem dL_974 : decode code 974 = .ok (.iconst 1, 1) := by decide +kernel
theorem dL_975 : decode code 975 = .ok (.iadd, 1) := by decide +kernel
theorem dL_976 : decode code 976 = .ok (.iaload, 1) := by decide +kernel
theorem dL_977 : decode code 977 = .ok (.aload_n 0, 1) := by decide +kernel
theorem dL_978 : decode code 978 = .ok (.iload_n 3, 1) := by decide +kernel
theorem dL_979 : decode code 979 = .ok (.iconst 2, 1) := by decide +kernel
theorem dL_980 : decode code 980 = .ok (.iadd, 1) := by decide +kernel
theorem dL_981 : decode code 981 = .ok (.iaload, 1) := by decide +kernel
theorem dL_982 : decode code 982 = .ok (.invokevirtual 106, 3) := by decide +kernel
theorem dL_985 : decode code 985 = .ok (.aload_n 2, 1) := by decide +kernel
theorem dL_986 : decode code 986 = .ok (.aload_n 0, 1) := by decide +kernel
theorem dL_987 : decode code 987 = .ok (.iload_n 3, 1) := by decide +kernel
theorem dL_988 : decode code 988 = .ok (.iconst 1, 1) := by decide +kernel
theorem dL_989 : decode code 989 = .ok (.iadd, 1) := by decide +kernel
theorem dL_990 : decode code 990 = .ok (.iaload, 1) := by decide +kernel
theorem dL_991 : decode code 991 = .ok (.aload_n 0, 1) := by decide +kernel
theorem dL_992 : decode code 992 = .ok (.iload_n 3, 1) := by decide +kernel
theorem dL_993 : decode code 993 = .ok (.iconst 2, 1) := by decide +kernel
theorem dL_994 : decode code 994 = .ok (.iadd, 1) := by decide +kernel
theorem dL_995 : decode code 995 = .ok (.iaload, 1) := by decide +kernel
theorem dL_996 : decode code 996 = .ok (.invokevirtual 109, 3) := by decide +kernel
theorem dL_999 : decode code 999 = .ok (.if_icmp .eq 549, 3) := by decide +kernel
theorem dL_1002 : decode code 1002 = .ok (.iconst 0, 1) := by decide +kernel
theorem dL_1003 : decode code 1003 = .ok (.ireturn, 1) := by decide +kernel
theorem dL_1004 : decode code 1004 = .ok (.aload_n 1, 1) := by decide +kernel
theorem dL_1005 : decode code 1005 = .ok (.aload_n 0, 1) := by decide +kernel
theorem dL_1006 : decode code 1006 = .ok (.iload_n 3, 1) := by decide +kernel
theorem dL_1007 : decode code 1007 = .ok (.iconst 1, 1) := by decide +kernel
theorem dL_1008 : decode code 1008 = .ok (.iadd, 1) := by decide +kernel
theorem dL_1009 : decode code 1009 = .ok (.iaload, 1) := by decide +kernel
theorem dL_1010 : decode code 1010 = .ok (.aload_n 0, 1) := by decide +kernel
theorem dL_1011 : decode code 1011 = .ok (.iload_n 3, 1) := by decide +kernel
theorem dL_1012 : decode code 1012 = .ok (.iconst 2, 1) := by decide +kernel
theorem dL_1013 : decode code 1013 = .ok (.iadd, 1) := by decide +kernel
theorem dL_1014 : decode code 1014 = .ok (.iaload, 1) := by decide +kernel
theorem dL_1015 : decode code 1015 = .ok (.aload_n 0, 1) := by decide +kernel
theorem dL_1016 : decode code 1016 = .ok (.iload_n 3, 1) := by decide +kernel
theorem dL_1017 : decode code 1017 = .ok (.iconst 3, 1) := by decide +kernel
theorem dL_1018 : decode code 1018 = .ok (.iadd, 1) := by decide +kernel
theorem dL_1019 : decode code 1019 = .ok (.iaload, 1) := by decide +kernel
theorem dL_1020 : decode code 1020 = .ok (.aload_n 0, 1) := by decide +kernel
theorem dL_1021 : decode code 1021 = .ok (.iload_n 3, 1) := by decide +kernel
theorem dL_1022 : decode code 1022 = .ok (.iconst 4, 1) := by decide +kernel
theorem dL_1023 : decode code 1023 = .ok (.iadd, 1) := by decide +kernel
theorem dL_1024 : decode code 1024 = .ok (.iaload, 1) := by decide +kernel
theorem dL_1025 : decode code 1025 = .ok (.invokevirtual 110, 3) := by decide +kernel
theorem dL_1028 : decode code 1028 = .ok (.aload_n 2, 1) := by decide +kernel
theorem dL_1029 : decode code 1029 = .ok (.aload_n 0, 1) := by decide +kernel
theorem dL_1030 : decode code 1030 = .ok (.iload_n 3, 1) := by decide +kernel
theorem dL_1031 : decode code 1031 = .ok (.iconst 1, 1) := by decide +kernel
theorem dL_1032 : decode code 1032 = .ok (.iadd, 1) := by decide +kernel
theorem dL_1033 : decode code 1033 = .ok (.iaload, 1) := by decide +kernel
theorem dL_1034 : decode code 1034 = .ok (.aload_n 0, 1) := by decide +kernel
theorem dL_1035 : decode code 1035 = .ok (.iload_n 3, 1) := by decide +kernel
theorem dL_1036 : decode code 1036 = .ok (.iconst 2, 1) := by decide +kernel
theorem dL_1037 : decode code 1037 = .ok (.iadd, 1) := by decide +kernel
theorem dL_1038 : decode code 1038 = .ok (.iaload, 1) := by decide +kernel
theorem dL_1039 : decode code 1039 = .ok (.aload_n 0, 1) := by decide +kernel
theorem dL_1040 : decode code 1040 = .ok (.iload_n 3, 1) := by decide +kernel
theorem dL_1041 : decode code 1041 = .ok (.iconst 3, 1) := by decide +kernel
theorem dL_1042 : decode code 1042 = .ok (.iadd, 1) := by decide +kernel
theorem dL_1043 : decode code 1043 = .ok (.iaload, 1) := by decide +kernel
theorem dL_1044 : decode code 1044 = .ok (.aload_n 0, 1) := by decide +kernel
theorem dL_1045 : decode code 1045 = .ok (.iload_n 3, 1) := by decide +kernel
theorem dL_1046 : decode code 1046 = .ok (.iconst 4, 1) := by decide +kernel
theorem dL_1047 : decode code 1047 = .ok (.iadd, 1) := by decide +kernel
theorem dL_1048 : decode code 1048 = .ok (.iaload, 1) := by decide +kernel
theorem dL_1049 : decode code 1049 = .ok (.invokevirtual 113, 3) := by decide +kernel
theorem dL_1052 : decode code 1052 = .ok (.if_icmp .eq 496, 3) := by decide +kernel
theorem dL_1055 : decode code 1055 = .ok (.iconst 0, 1) := by decide +kernel
theorem dL_1056 : decode code 1056 = .ok (.ireturn, 1) := by decide +kernel
theorem dL_1057 : decode code 1057 = .ok (.aload_n 1, 1) := by decide +kernel
theorem dL_1058 : decode code 1058 = .ok (.aload_n 0, 1) := by decide +kernel
theorem dL_1059 : decode code 1059 = .ok (.iload_n 3, 1) := by decide +kernel
theorem dL_1060 : decode code 1060 = .ok (.iconst 1, 1) := by decide +kernel
theorem dL_1061 : decode code 1061 = .ok (.iadd, 1) := by decide +kernel
theorem dL_1062 : decode code 1062 = .ok (.iaload, 1) := by decide +kernel
theorem dL_1063 : decode code 1063 = .ok (.aload_n 0, 1) := by decide +kernel
theorem dL_1064 : decode code 1064 = .ok (.iload_n 3, 1) := by decide +kernel
theorem dL_1065 : decode code 1065 = .ok (.iconst 2, 1) := by decide +kernel
theorem dL_1066 : decode code 1066 = .ok (.iadd, 1) := by decide +kernel
theorem dL_1067 : decode code 1067 = .ok (.iaload, 1) := by decide +kernel
theorem dL_1068 : decode code 1068 = .ok (.invokevirtual 114, 3) := by decide +kernel
theorem dL_1071 : decode code 1071 = .ok (.aload_n 2, 1) := by decide +kernel
theorem dL_1072 : decode code 1072 = .ok (.aload_n 0, 1) := by decide +kernel
theorem dL_1073 : decode code 1073 = .ok (.iload_n 3, 1) := by decide +kernel
theorem dL_1074 : decode code 1074 = .ok (.iconst 1, 1) := by decide +kernel
theorem dL_1075 : decode code 1075 = .ok (.iadd, 1) := by decide +kernel
theorem dL_1076 : decode code 1076 = .ok (.iaload, 1) := by decide +kernel
theorem dL_1077 : decode code 1077 = .ok (.aload_n 0, 1) := by decide +kernel
