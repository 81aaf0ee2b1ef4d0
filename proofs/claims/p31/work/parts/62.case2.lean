theorem dL_law_750 : decode cL_law 750 = .ok (.aload_n 1, 1) := by decide +kernel
theorem dL_law_751 : decode cL_law 751 = .ok (.invokevirtual 114, 3) := by decide +kernel
theorem dL_law_754 : decode cL_law 754 = .ok (.pop, 1) := by decide +kernel
theorem dL_law_755 : decode cL_law 755 = .ok (.aload_n 2, 1) := by decide +kernel
theorem dL_law_756 : decode cL_law 756 = .ok (.invokevirtual 117, 3) := by decide +kernel
theorem dL_law_759 : decode cL_law 759 = .ok (.pop, 1) := by decide +kernel
theorem dL_law_760 : decode cL_law 760 = .ok (.goto 296, 3) := by decide +kernel
theorem dL_law_763 : decode cL_law 763 = .ok (.aload_n 1, 1) := by decide +kernel
theorem dL_law_764 : decode cL_law 764 = .ok (.aload_n 0, 1) := by decide +kernel
theorem dL_law_765 : decode cL_law 765 = .ok (.iload_n 3, 1) := by decide +kernel
theorem dL_law_766 : decode cL_law 766 = .ok (.iconst 1, 1) := by decide +kernel
theorem dL_law_767 : decode cL_law 767 = .ok (.iadd, 1) := by decide +kernel
theorem dL_law_768 : decode cL_law 768 = .ok (.iaload, 1) := by decide +kernel
theorem dL_law_769 : decode cL_law 769 = .ok (.invokevirtual 118, 3) := by decide +kernel
theorem dL_law_772 : decode cL_law 772 = .ok (.pop, 1) := by decide +kernel
theorem dL_law_773 : decode cL_law 773 = .ok (.aload_n 2, 1) := by decide +kernel
theorem dL_law_774 : decode cL_law 774 = .ok (.aload_n 0, 1) := by decide +kernel
theorem dL_law_775 : decode cL_law 775 = .ok (.iload_n 3, 1) := by decide +kernel
theorem dL_law_776 : decode cL_law 776 = .ok (.iconst 1, 1) := by decide +kernel
theorem dL_law_777 : decode cL_law 777 = .ok (.iadd, 1) := by decide +kernel
theorem dL_law_778 : decode cL_law 778 = .ok (.iaload, 1) := by decide +kernel
theorem dL_law_779 : decode cL_law 779 = .ok (.invokevirtual 121, 3) := by decide +kernel
theorem dL_law_782 : decode cL_law 782 = .ok (.pop, 1) := by decide +kernel
theorem dL_law_783 : decode cL_law 783 = .ok (.goto 273, 3) := by decide +kernel
theorem dL_law_786 : decode cL_law 786 = .ok (.aload_n 1, 1) := by decide +kernel
theorem dL_law_787 : decode cL_law 787 = .ok (.invokevirtual 122, 3) := by decide +kernel
theorem dL_law_790 : decode cL_law 790 = .ok (.pop, 1) := by decide +kernel
theorem dL_law_791 : decode cL_law 791 = .ok (.aload_n 2, 1) := by decide +kernel
theorem dL_law_792 : decode cL_law 792 = .ok (.invokevirtual 125, 3) := by decide +kernel
theorem dL_law_795 : decode cL_law 795 = .ok (.pop, 1) := by decide +kernel
theorem dL_law_796 : decode cL_law 796 = .ok (.goto 260, 3) := by decide +kernel
theorem dL_law_799 : decode cL_law 799 = .ok (.aload_n 1, 1) := by decide +kernel
theorem dL_law_800 : decode cL_law 800 = .ok (.aload_n 0, 1) := by decide +kernel
theorem dL_law_801 : decode cL_law 801 = .ok (.iload_n 3, 1) := by decide +kernel
theorem dL_law_802 : decode cL_law 802 = .ok (.iconst 1, 1) := by decide +kernel
theorem dL_law_803 : decode cL_law 803 = .ok (.iadd, 1) := by decide +kernel
theorem dL_law_804 : decode cL_law 804 = .ok (.iaload, 1) := by decide +kernel
theorem dL_law_805 : decode cL_law 805 = .ok (.aload_n 0, 1) := by decide +kernel
theorem dL_law_806 : decode cL_law 806 = .ok (.iload_n 3, 1) := by decide +kernel
theorem dL_law_807 : decode cL_law 807 = .ok (.iconst 2, 1) := by decide +kernel
theorem dL_law_808 : decode cL_law 808 = .ok (.iadd, 1) := by decide +kernel
theorem dL_law_809 : decode cL_law 809 = .ok (.iaload, 1) := by decide +kernel
theorem dL_law_810 : decode cL_law 810 = .ok (.aload_n 0, 1) := by decide +kernel
theorem dL_law_811 : decode cL_law 811 = .ok (.iload_n 3, 1) := by decide +kernel
theorem dL_law_812 : decode cL_law 812 = .ok (.iconst 3, 1) := by decide +kernel
theorem dL_law_813 : decode cL_law 813 = .ok (.iadd, 1) := by decide +kernel
theorem dL_law_814 : decode cL_law 814 = .ok (.iaload, 1) := by decide +kernel
theorem dL_law_815 : decode cL_law 815 = .ok (.invokevirtual 126, 3) := by decide +kernel
theorem dL_law_818 : decode cL_law 818 = .ok (.pop, 1) := by decide +kernel
theorem dL_law_819 : decode cL_law 819 = .ok (.aload_n 2, 1) := by decide +kernel
theorem dL_law_820 : decode cL_law 820 = .ok (.aload_n 0, 1) := by decide +kernel
theorem dL_law_821 : decode cL_law 821 = .ok (.iload_n 3, 1) := by decide +kernel
theorem dL_law_822 : decode cL_law 822 = .ok (.iconst 1, 1) := by decide +kernel
theorem dL_law_823 : decode cL_law 823 = .ok (.iadd, 1) := by decide +kernel
theorem dL_law_824 : decode cL_law 824 = .ok (.iaload, 1) := by decide +kernel
theorem dL_law_825 : decode cL_law 825 = .ok (.aload_n 0, 1) := by decide +kernel
theorem dL_law_826 : decode cL_law 826 = .ok (.iload_n 3, 1) := by decide +kernel
theorem dL_law_827 : decode cL_law 827 = .ok (.iconst 2, 1) := by decide +kernel
theorem dL_law_828 : decode cL_law 828 = .ok (.iadd, 1) := by decide +kernel
theorem dL_law_829 : decode cL_law 829 = .ok (.iaload, 1) := by decide +kernel
theorem dL_law_830 : decode cL_law 830 = .ok (.aload_n 0, 1) := by decide +kernel
theorem dL_law_831 : decode cL_law 831 = .ok (.iload_n 3, 1) := by decide +kernel
theorem dL_law_832 : decode cL_law 832 = .ok (.iconst 3, 1) := by decide +kernel
theorem dL_law_833 : decode cL_law 833 = .ok (.iadd, 1) := by decide +kernel
theorem dL_law_834 : decode cL_law 834 = .ok (.iaload, 1) := by decide +kernel
theorem dL_law_835 : decode cL_law 835 = .ok (.invokevirtual 130, 3) := by decide +kernel
theorem dL_law_838 : decode cL_law 838 = .ok (.pop, 1) := by decide +kernel
theorem dL_law_839 : decode cL_law 839 = .ok (.goto 217, 3) := by decide +kernel
theorem dL_law_842 : decode cL_law 842 = .ok (.aload_n 1, 1) := by decide +kernel
theorem dL_law_843 : decode cL_law 843 = .ok (.aload_n 0, 1) := by decide +kernel
theorem dL_law_844 : decode cL_law 844 = .ok (.iload_n 3, 1) := by decide +kernel
theorem dL_law_845 : decode cL_law 845 = .ok (.iconst 1, 1) := by decide +kernel
theorem dL_law_846 : decode cL_law 846 = .ok (.iadd, 1) := by decide +kernel
theorem dL_law_847 : decode cL_law 847 = .ok (.iaload, 1) := by decide +kernel
theorem dL_law_848 : decode cL_law 848 = .ok (.invokevirtual 131, 3) := by decide +kernel
theorem dL_law_851 : decode cL_law 851 = .ok (.pop, 1) := by decide +kernel
theorem dL_law_852 : decode cL_law 852 = .ok (.aload_n 2, 1) := by decide +kernel
theorem dL_law_853 : decode cL_law 853 = .ok (.aload_n 0, 1) := by decide +kernel
theorem dL_law_854 : decode cL_law 854 = .ok (.iload_n 3, 1) := by decide +kernel
theorem dL_law_855 : decode cL_law 855 = .ok (.iconst 1, 1) := by decide +kernel
theorem dL_law_856 : decode cL_law 856 = .ok (.iadd, 1) := by decide +kernel
theorem dL_law_857 : decode cL_law 857 = .ok (.iaload, 1) := by decide +kernel
theorem dL_law_858 : decode cL_law 858 = .ok (.invokevirtual 135, 3) := by decide +kernel
theorem dL_law_861 : decode cL_law 861 = .ok (.pop, 1) := by decide +kernel
theorem dL_law_862 : decode cL_law 862 = .ok (.goto 194, 3) := by decide +kernel
theorem dL_law_865 : decode cL_law 865 = .ok (.aload_n 1, 1) := by decide +kernel
theorem dL_law_866 : decode cL_law 866 = .ok (.aload_n 0, 1) := by decide +kernel
theorem dL_law_867 : decode cL_law 867 = .ok (.iload_n 3, 1) := by decide +kernel
theorem dL_law_868 : decode cL_law 868 = .ok (.iconst 1, 1) := by decide +kernel
theorem dL_law_869 : decode cL_law 869 = .ok (.iadd, 1) := by decide +kernel
theorem dL_law_870 : decode cL_law 870 = .ok (.iaload, 1) := by decide +kernel
theorem dL_law_871 : decode cL_law 871 = .ok (.invokevirtual 136, 3) := by decide +kernel
theorem dL_law_874 : decode cL_law 874 = .ok (.aload_n 2, 1) := by decide +kernel
theorem dL_law_875 : decode cL_law 875 = .ok (.aload_n 0, 1) := by decide +kernel
theorem dL_law_876 : decode cL_law 876 = .ok (.iload_n 3, 1) := by decide +kernel
theorem dL_law_877 : decode cL_law 877 = .ok (.iconst 1, 1) := by decide +kernel
theorem dL_law_878 : decode cL_law 878 = .ok (.iadd, 1) := by decide +kernel
theorem dL_law_879 : decode cL_law 879 = .ok (.iaload, 1) := by decide +kernel
theorem dL_law_880 : decode cL_law 880 = .ok (.invokevirtual 139, 3) := by decide +kernel
theorem dL_law_883 : decode cL_law 883 = .ok (.if_icmp .eq 173, 3) := by decide +kernel
theorem dL_law_888 : decode cL_law 888 = .ok (.aload_n 1, 1) := by decide +kernel
theorem dL_law_889 : decode cL_law 889 = .ok (.aload_n 0, 1) := by decide +kernel
theorem dL_law_890 : decode cL_law 890 = .ok (.iload_n 3, 1) := by decide +kernel
theorem dL_law_891 : decode cL_law 891 = .ok (.iconst 1, 1) := by decide +kernel
theorem dL_law_892 : decode cL_law 892 = .ok (.iadd, 1) := by decide +kernel
theorem dL_law_893 : decode cL_law 893 = .ok (.iaload, 1) := by decide +kernel
theorem dL_law_894 : decode cL_law 894 = .ok (.aload_n 0, 1) := by decide +kernel
theorem dL_law_895 : decode cL_law 895 = .ok (.iload_n 3, 1) := by decide +kernel
theorem dL_law_896 : decode cL_law 896 = .ok (.iconst 2, 1) := by decide +kernel
theorem dL_law_897 : decode cL_law 897 = .ok (.iadd, 1) := by decide +kernel
theorem dL_law_898 : decode cL_law 898 = .ok (.iaload, 1) := by decide +kernel
theorem dL_law_899 : decode cL_law 899 = .ok (.invokevirtual 140, 3) := by decide +kernel
theorem dL_law_902 : decode cL_law 902 = .ok (.pop2, 1) := by decide +kernel
theorem dL_law_903 : decode cL_law 903 = .ok (.aload_n 2, 1) := by decide +kernel
theorem dL_law_904 : decode cL_law 904 = .ok (.aload_n 0, 1) := by decide +kernel
theorem dL_law_905 : decode cL_law 905 = .ok (.iload_n 3, 1) := by decide +kernel
theorem dL_law_906 : decode cL_law 906 = .ok (.iconst 1, 1) := by decide +kernel
theorem dL_law_907 : decode cL_law 907 = .ok (.iadd, 1) := by decide +kernel
theorem dL_law_908 : decode cL_law 908 = .ok (.iaload, 1) := by decide +kernel
theorem dL_law_909 : decode cL_law 909 = .ok (.aload_n 0, 1) := by decide +kernel
theorem dL_law_910 : decode cL_law 910 = .ok (.iload_n 3, 1) := by decide +kernel
theorem dL_law_911 : decode cL_law 911 = .ok (.iconst 2, 1) := by decide +kernel
theorem dL_law_912 : decode cL_law 912 = .ok (.iadd, 1) := by decide +kernel
theorem dL_law_913 : decode cL_law 913 = .ok (.iaload, 1) := by decide +kernel
theorem dL_law_914 : decode cL_law 914 = .ok (.invokevirtual 144, 3) := by decide +kernel
theorem dL_law_917 : decode cL_law 917 = .ok (.pop2, 1) := by decide +kernel
theorem dL_law_918 : decode cL_law 918 = .ok (.goto 138, 3) := by decide +kernel
theorem dL_law_921 : decode cL_law 921 = .ok (.aload_n 1, 1) := by decide +kernel
theorem dL_law_922 : decode cL_law 922 = .ok (.aload_n 0, 1) := by decide +kernel
theorem dL_law_923 : decode cL_law 923 = .ok (.iload_n 3, 1) := by decide +kernel
theorem dL_law_924 : decode cL_law 924 = .ok (.iconst 1, 1) := by decide +kernel
theorem dL_law_925 : decode cL_law 925 = .ok (.iadd, 1) := by decide +kernel
theorem dL_law_926 : decode cL_law 926 = .ok (.iaload, 1) := by decide +kernel
theorem dL_law_927 : decode cL_law 927 = .ok (.aload_n 0, 1) := by decide +kernel
theorem dL_law_928 : decode cL_law 928 = .ok (.iload_n 3, 1) := by decide +kernel
theorem dL_law_929 : decode cL_law 929 = .ok (.iconst 2, 1) := by decide +kernel
theorem dL_law_930 : decode cL_law 930 = .ok (.iadd, 1) := by decide +kernel
theorem dL_law_931 : decode cL_law 931 = .ok (.iaload, 1) := by decide +kernel
theorem dL_law_932 : decode cL_law 932 = .ok (.aload_n 0, 1) := by decide +kernel
theorem dL_law_933 : decode cL_law 933 = .ok (.iload_n 3, 1) := by decide +kernel
theorem dL_law_934 : decode cL_law 934 = .ok (.iconst 3, 1) := by decide +kernel
theorem dL_law_935 : decode cL_law 935 = .ok (.iadd, 1) := by decide +kernel
theorem dL_law_936 : decode cL_law 936 = .ok (.iaload, 1) := by decide +kernel
theorem dL_law_937 : decode cL_law 937 = .ok (.invokevirtual 145, 3) := by decide +kernel
theorem dL_law_940 : decode cL_law 940 = .ok (.pop, 1) := by decide +kernel
theorem dL_law_941 : decode cL_law 941 = .ok (.aload_n 2, 1) := by decide +kernel
theorem dL_law_942 : decode cL_law 942 = .ok (.aload_n 0, 1) := by decide +kernel
theorem dL_law_943 : decode cL_law 943 = .ok (.iload_n 3, 1) := by decide +kernel
theorem dL_law_944 : decode cL_law 944 = .ok (.iconst 1, 1) := by decide +kernel
theorem dL_law_945 : decode cL_law 945 = .ok (.iadd, 1) := by decide +kernel
theorem dL_law_946 : decode cL_law 946 = .ok (.iaload, 1) := by decide +kernel
theorem dL_law_947 : decode cL_law 947 = .ok (.aload_n 0, 1) := by decide +kernel
theorem dL_law_948 : decode cL_law 948 = .ok (.iload_n 3, 1) := by decide +kernel
theorem dL_law_949 : decode cL_law 949 = .ok (.iconst 2, 1) := by decide +kernel
theorem dL_law_950 : decode cL_law 950 = .ok (.iadd, 1) := by decide +kernel
theorem dL_law_951 : decode cL_law 951 = .ok (.iaload, 1) := by decide +kernel
theorem dL_law_952 : decode cL_law 952 = .ok (.aload_n 0, 1) := by decide +kernel
theorem dL_law_953 : decode cL_law 953 = .ok (.iload_n 3, 1) := by decide +kernel
theorem dL_law_954 : decode cL_law 954 = .ok (.iconst 3, 1) := by decide +kernel
theorem dL_law_955 : decode cL_law 955 = .ok (.iadd, 1) := by decide +kernel
theorem dL_law_956 : decode cL_law 956 = .ok (.iaload, 1) := by decide +kernel
theorem dL_law_957 : decode cL_law 957 = .ok (.invokevirtual 148, 3) := by decide +kernel
theorem dL_law_960 : decode cL_law 960 = .ok (.pop, 1) := by decide +kernel
theorem dL_law_961 : decode cL_law 961 = .ok (.goto 95, 3) := by decide +kernel
theorem dL_law_964 : decode cL_law 964 = .ok (.aload_n 1, 1) := by decide +kernel
theorem dL_law_965 : decode cL_law 965 = .ok (.aload_n 0, 1) := by decide +kernel
theorem dL_law_966 : decode cL_law 966 = .ok (.iload_n 3, 1) := by decide +kernel
theorem dL_law_967 : decode cL_law 967 = .ok (.iconst 1, 1) := by decide +kernel
theorem dL_law_968 : decode cL_law 968 = .ok (.iadd, 1) := by decide +kernel
theorem dL_law_969 : decode cL_law 969 = .ok (.iaload, 1) := by decide +kernel
theorem dL_law_970 : decode cL_law 970 = .ok (.invokevirtual 149, 3) := by decide +kernel
theorem dL_law_973 : decode cL_law 973 = .ok (.pop, 1) := by decide +kernel
theorem dL_law_974 : decode cL_law 974 = .ok (.aload_n 2, 1) := by decide +kernel
theorem dL_law_975 : decode cL_law 975 = .ok (.aload_n 0, 1) := by decide +kernel
theorem dL_law_976 : decode cL_law 976 = .ok (.iload_n 3, 1) := by decide +kernel
theorem dL_law_977 : decode cL_law 977 = .ok (.iconst 1, 1) := by decide +kernel
theorem dL_law_978 : decode cL_law 978 = .ok (.iadd, 1) := by decide +kernel
theorem dL_law_979 : decode cL_law 979 = .ok (.iaload, 1) := by decide +kernel
theorem dL_law_980 : decode cL_law 980 = .ok (.invokevirtual 152, 3) := by decide +kernel
theorem dL_law_983 : decode cL_law 983 = .ok (.pop, 1) := by decide +kernel
theorem dL_law_984 : decode cL_law 984 = .ok (.goto 72, 3) := by decide +kernel
theorem dL_law_987 : decode cL_law 987 = .ok (.aload_n 1, 1) := by decide +kernel
theorem dL_law_988 : decode cL_law 988 = .ok (.aload_n 0, 1) := by decide +kernel
theorem dL_law_989 : decode cL_law 989 = .ok (.iload_n 3, 1) := by decide +kernel
theorem dL_law_990 : decode cL_law 990 = .ok (.iconst 1, 1) := by decide +kernel
theorem dL_law_991 : decode cL_law 991 = .ok (.iadd, 1) := by decide +kernel
theorem dL_law_992 : decode cL_law 992 = .ok (.iaload, 1) := by decide +kernel
theorem dL_law_993 : decode cL_law 993 = .ok (.invokevirtual 153, 3) := by decide +kernel
theorem dL_law_996 : decode cL_law 996 = .ok (.pop, 1) := by decide +kernel
theorem dL_law_997 : decode cL_law 997 = .ok (.aload_n 2, 1) := by decide +kernel
theorem dL_law_998 : decode cL_law 998 = .ok (.aload_n 0, 1) := by decide +kernel
theorem dL_law_999 : decode cL_law 999 = .ok (.iload_n 3, 1) := by decide +kernel
theorem dL_law_1000 : decode cL_law 1000 = .ok (.iconst 1, 1) := by decide +kernel
theorem dL_law_1001 : decode cL_law 1001 = .ok (.iadd, 1) := by decide +kernel
theorem dL_law_1002 : decode cL_law 1002 = .ok (.iaload, 1) := by decide +kernel
theorem dL_law_1003 : decode cL_law 1003 = .ok (.invokevirtual 156, 3) := by decide +kernel
theorem dL_law_1006 : decode cL_law 1006 = .ok (.pop, 1) := by decide +kernel
theorem dL_law_1007 : decode cL_law 1007 = .ok (.goto 49, 3) := by decide +kernel
theorem dL_law_1010 : decode cL_law 1010 = .ok (.aload_n 1, 1) := by decide +kernel
theorem dL_law_1011 : decode cL_law 1011 = .ok (.aload_n 0, 1) := by decide +kernel
theorem dL_law_1012 : decode cL_law 1012 = .ok (.iload_n 3, 1) := by decide +kernel
theorem dL_law_1013 : decode cL_law 1013 = .ok (.iconst 1, 1) := by decide +kernel
theorem dL_law_1014 : decode cL_law 1014 = .ok (.iadd, 1) := by decide +kernel
theorem dL_law_1015 : decode cL_law 1015 = .ok (.iaload, 1) := by decide +kernel
theorem dL_law_1016 : decode cL_law 1016 = .ok (.invokevirtual 157, 3) := by decide +kernel
theorem dL_law_1019 : decode cL_law 1019 = .ok (.pop, 1) := by decide +kernel
theorem dL_law_1020 : decode cL_law 1020 = .ok (.aload_n 2, 1) := by decide +kernel
theorem dL_law_1021 : decode cL_law 1021 = .ok (.aload_n 0, 1) := by decide +kernel
theorem dL_law_1022 : decode cL_law 1022 = .ok (.iload_n 3, 1) := by decide +kernel
theorem dL_law_1023 : decode cL_law 1023 = .ok (.iconst 1, 1) := by decide +kernel
theorem dL_law_1024 : decode cL_law 1024 = .ok (.iadd, 1) := by decide +kernel
theorem dL_law_1025 : decode cL_law 1025 = .ok (.iaload, 1) := by decide +kernel
theorem dL_law_1026 : decode cL_law 1026 = .ok (.invokevirtual 160, 3) := by decide +kernel
theorem dL_law_1029 : decode cL_law 1029 = .ok (.pop, 1) := by decide +kernel
theorem dL_law_1030 : decode cL_law 1030 = .ok (.goto 26, 3) := by decide +kernel
theorem dL_law_1033 : decode cL_law 1033 = .ok (.aload_n 1, 1) := by decide +kernel
theorem dL_law_1034 : decode cL_law 1034 = .ok (.aload_n 0, 1) := by decide +kernel
theorem dL_law_1035 : decode cL_law 1035 = .ok (.iload_n 3, 1) := by decide +kernel
theorem dL_law_1036 : decode cL_law 1036 = .ok (.iconst 1, 1) := by decide +kernel
theorem dL_law_1037 : decode cL_law 1037 = .ok (.iadd, 1) := by decide +kernel
theorem dL_law_1038 : decode cL_law 1038 = .ok (.iaload, 1) := by decide +kernel
theorem dL_law_1039 : decode cL_law 1039 = .ok (.invokevirtual 161, 3) := by decide +kernel
theorem dL_law_1042 : decode cL_law 1042 = .ok (.pop, 1) := by decide +kernel
theorem dL_law_1043 : decode cL_law 1043 = .ok (.aload_n 2, 1) := by decide +kernel
theorem dL_law_1044 : decode cL_law 1044 = .ok (.aload_n 0, 1) := by decide +kernel
theorem dL_law_1045 : decode cL_law 1045 = .ok (.iload_n 3, 1) := by decide +kernel
theorem dL_law_1046 : decode cL_law 1046 = .ok (.iconst 1, 1) := by decide +kernel
theorem dL_law_1047 : decode cL_law 1047 = .ok (.iadd, 1) := by decide +kernel
theorem dL_law_1048 : decode cL_law 1048 = .ok (.iaload, 1) := by decide +kernel
theorem dL_law_1049 : decode cL_law 1049 = .ok (.invokevirtual 164, 3) := by decide +kernel
theorem dL_law_1052 : decode cL_law 1052 = .ok (.pop, 1) := by decide +kernel
theorem dL_law_1053 : decode cL_law 1053 = .ok (.goto 3, 3) := by decide +kernel
set_option maxHeartbeats 4000000 in
set_option maxRecDepth 100000 in
theorem lc_done {p : Program} {l : Launch} {e : Env} {s : State} {m : MethodId} {below : List Frame} {meth : Method} {c : Code} {b L : Nat} {xs : Nat → Int32} {D : va_G} {cB cI cJ cS cZ cO : ClassId} {A : Nat → Prop} {adK adV : Nat → Nat} {o mo i ph cl sl : Nat} {tm : Int32} {wc wm : va_W} {H : Heap} {locs : List Jvm.Loc} {ls : Array Slot} (C0 : lw_At p s m meth c b L xs) (hL : L ≤ 3072) (hi6 : i + 6 ≤ L) (hK : va_K D vwCl (tyL cB cI cJ cS cZ cO) s) (hN : nwA s) (hE : strE adK adV A s s.heap) (hR : strR adK s) (hA : ∀ q : Nat, s.heap.size ≤ q → A q) (hAf : ∀ q : Nat, A q → s.heap.size ≤ q) (hC : okC cB cI cJ cS cZ cO o tm ph wc) (hM : okM cB cI cJ cS cZ cO mo tm wm) (hP : va_P D vwCl (wc ++ wm) H) (hD : va_D A (wc ++ wm)) (hS : va_S A s.heap H locs) (hl : lv_has ls 4 [(0, .ref b), (1, .ref o), (2, .ref mo), (3, .int (nI i))]) (hcl : cl ≤ 1000 + i) (hsl : sl ≤ 1000000 + 2 * ph) (kk : ∀ (cl2 sl2 : Nat) (H2 : Heap) (locs2 : List Jvm.Loc) (ls2 : Array Slot), LI cB cI cJ cS cZ cO D s A b o mo L (L - (i + 6)) cl2 sl2 H2 locs2 ls2 → W p l e room_1 s m #[Value.ref b] below meth c H2 locs2 cl2 sl2 (lw_Z below #[Value.ref b] s) (F0 m 18 ls2 [])) : W p l e room_1 s m #[Value.ref b] below meth c H locs cl sl (lw_Z below #[Value.ref b] s) (F0 m 750 ls []) := by
  obtain ⟨hx, hb, hr, hml, hown, hts0, hX, hbl, hlocks, hgv⟩ := id C0
  have hts := fun w h => hts0 w (wsL_law_in w h)
  have hbA : ¬ A b := fun h => absurd (hAf b h) (Nat.not_le.mpr hbl)
  refine lv_aload_n hx hb dL_law_750 rfl (lv_at hl 1 rfl) ?_
  obtain ⟨⟨fs, hfs⟩, hph⟩ := okC_o hC
  obtain ⟨ms, hml7, hmet⟩ := p_X10_done l D cB cI cJ cS cZ cO H.size o tm ph wc  hC
  refine xAi hP hD hS hA (va_runV (As := []) (rest := []) ⟨hx, hb, hml, hown, hts⟩ hmet (cwV 0 hts0 gl_X10_done rfl rfl rfl (by decide +kernel) ⟨Nat.le_of_ble_eq_true rfl, Nat.le_of_ble_eq_true rfl⟩) (xPreVA hN hK hP hD hfs rfl rfl) rfl rfl hl.1 rfl (lv_room (Nat.le_of_ble_eq_true rfl)) dL_law_751 ⟨show cl + 0 ≤ 600000 by omega, show sl + ms ≤ 7302250 by omega⟩) (fun r_1 wc H locs hw hP hD hS => ?_)
  obtain ⟨ph2, hC, hms⟩ := hw
  refine lv_pop hx hb dL_law_754 rfl ?_
  refine lv_aload_n hx hb dL_law_755 rfl (lv_at hl 2 rfl) ?_
  obtain ⟨fs2, hfs2⟩ := okM_o hM
  have hP := P_swap hP
  have hD := D_swap hD
  have hmet2 := p_X11_done l D cB cI cJ cS cZ cO H.size mo tm wm  hM
  refine xAi hP hD hS hA (va_runV (As := []) (rest := []) ⟨hx, hb, hml, hown, hts⟩ hmet2 (cwV 0 hts0 gl_X11_done rfl rfl rfl (by decide +kernel) ⟨Nat.le_of_ble_eq_true rfl, Nat.le_of_ble_eq_true rfl⟩) (xPreVA hN hK hP hD hfs2 rfl rfl) rfl rfl hl.1 rfl (lv_room (Nat.le_of_ble_eq_true rfl)) dL_law_756 ⟨show cl + 0 + 0 ≤ 600000 by omega, show sl + ms + 0 ≤ 7302250 by omega⟩) (fun r_2 wm H locs hM hP hD hS => ?_)
  have hP := P_swap hP
  have hD := D_swap hD
  refine lv_pop hx hb dL_law_759 rfl ?_
  refine lv_goto (tgt := 1056) hx hb dL_law_760 (by decide) ?_
  refine lv_iinc (v := nI (i + 6)) (lv' := [(3, .int (nI (i + 6))), (0, .ref b), (1, .ref o), (2, .ref mo)]) hx hb dL_law_1056 hl (k := 3) rfl (nI_add i 6) (by decide) rfl (fun ls hl => ?_)
  refine lv_goto (tgt := 18) hx hb dL_law_1059 (by decide) ?_
  exact kk _ _ _ _ _ ⟨i + 6, wc, wm, _, ph2, rfl, hC, hM, hP, hD, hS, lv_sub hl [1, 2, 3, 0] rfl, by omega, by omega, by omega⟩

set_option maxHeartbeats 4000000 in
set_option maxRecDepth 100000 in
theorem lc_again {p : Program} {l : Launch} {e : Env} {s : State} {m : MethodId} {below : List Frame} {meth : Method} {c : Code} {b L : Nat} {xs : Nat → Int32} {D : va_G} {cB cI cJ cS cZ cO : ClassId} {A : Nat → Prop} {adK adV : Nat → Nat} {o mo i ph cl sl : Nat} {tm : Int32} {wc wm : va_W} {H : Heap} {locs : List Jvm.Loc} {ls : Array Slot} (C0 : lw_At p s m meth c b L xs) (hL : L ≤ 3072) (hi6 : i + 6 ≤ L) (hK : va_K D vwCl (tyL cB cI cJ cS cZ cO) s) (hN : nwA s) (hE : strE adK adV A s s.heap) (hR : strR adK s) (hA : ∀ q : Nat, s.heap.size ≤ q → A q) (hAf : ∀ q : Nat, A q → s.heap.size ≤ q) (hC : okC cB cI cJ cS cZ cO o tm ph wc) (hM : okM cB cI cJ cS cZ cO mo tm wm) (hP : va_P D vwCl (wc ++ wm) H) (hD : va_D A (wc ++ wm)) (hS : va_S A s.heap H locs) (hl : lv_has ls 4 [(0, .ref b), (1, .ref o), (2, .ref mo), (3, .int (nI i))]) (hcl : cl ≤ 1000 + i) (hsl : sl ≤ 1000000 + 2 * ph) (kk : ∀ (cl2 sl2 : Nat) (H2 : Heap) (locs2 : List Jvm.Loc) (ls2 : Array Slot), LI cB cI cJ cS cZ cO D s A b o mo L (L - (i + 6)) cl2 sl2 H2 locs2 ls2 → W p l e room_1 s m #[Value.ref b] below meth c H2 locs2 cl2 sl2 (lw_Z below #[Value.ref b] s) (F0 m 18 ls2 [])) : W p l e room_1 s m #[Value.ref b] below meth c H locs cl sl (lw_Z below #[Value.ref b] s) (F0 m 763 ls []) := by
  obtain ⟨hx, hb, hr, hml, hown, hts0, hX, hbl, hlocks, hgv⟩ := id C0
  have hts := fun w h => hts0 w (wsL_law_in w h)
  have hbA : ¬ A b := fun h => absurd (hAf b h) (Nat.not_le.mpr hbl)
  refine lv_aload_n hx hb dL_law_763 rfl (lv_at hl 1 rfl) ?_
  refine lv_aload_n hx hb dL_law_764 rfl (lv_at hl 0 rfl) ?_
  refine lv_iload_n hx hb dL_law_765 rfl (lv_at hl 3 rfl) ?_
  refine lv_iconst (v := 1) hx hb dL_law_766 (by decide) ?_
  refine lv_iadd hx hb dL_law_767 ?_
  refine xb_top (y := nI (i + 1)) (nI_add i 1) ?_
  refine va_sld hx hb hX hbl hbA hS (vp_in_nI (by omega) (by omega)) dL_law_768 ?_
  refine xb_top (y := xs (i + 1)) (by rw [nI_clamp (by omega)]) ?_
  obtain ⟨⟨fs, hfs⟩, hph⟩ := okC_o hC
  obtain ⟨ms, hml7, hmet⟩ := p_X10_again l D cB cI cJ cS cZ cO H.size o tm ph wc (xs (i + 1)) hC
  refine xAi hP hD hS hA (va_runV (As := [.int (xs (i + 1))]) (rest := []) ⟨hx, hb, hml, hown, hts⟩ hmet (cwV 1 hts0 gl_X10_again rfl rfl rfl (by decide +kernel) ⟨Nat.le_of_ble_eq_true rfl, Nat.le_of_ble_eq_true rfl⟩) (xPreVA hN hK hP hD hfs rfl rfl) rfl rfl hl.1 rfl (lv_room (Nat.le_of_ble_eq_true rfl)) dL_law_769 ⟨show cl + 0 ≤ 600000 by omega, show sl + ms ≤ 7302250 by omega⟩) (fun r_1 wc H locs hw hP hD hS => ?_)
  obtain ⟨ph2, hC, hms⟩ := hw
  refine lv_pop hx hb dL_law_772 rfl ?_
  refine lv_aload_n hx hb dL_law_773 rfl (lv_at hl 2 rfl) ?_
  refine lv_aload_n hx hb dL_law_774 rfl (lv_at hl 0 rfl) ?_
  refine lv_iload_n hx hb dL_law_775 rfl (lv_at hl 3 rfl) ?_
  refine lv_iconst (v := 1) hx hb dL_law_776 (by decide) ?_
  refine lv_iadd hx hb dL_law_777 ?_
  refine xb_top (y := nI (i + 1)) (nI_add i 1) ?_
  refine va_sld hx hb hX hbl hbA hS (vp_in_nI (by omega) (by omega)) dL_law_778 ?_
  refine xb_top (y := xs (i + 1)) (by rw [nI_clamp (by omega)]) ?_
  obtain ⟨fs2, hfs2⟩ := okM_o hM
  have hP := P_swap hP
  have hD := D_swap hD
  have hmet2 := p_X11_again l D cB cI cJ cS cZ cO H.size mo tm wm (xs (i + 1)) hM
  refine xAi hP hD hS hA (va_runV (As := [.int (xs (i + 1))]) (rest := []) ⟨hx, hb, hml, hown, hts⟩ hmet2 (cwV 1 hts0 gl_X11_again rfl rfl rfl (by decide +kernel) ⟨Nat.le_of_ble_eq_true rfl, Nat.le_of_ble_eq_true rfl⟩) (xPreVA hN hK hP hD hfs2 rfl rfl) rfl rfl hl.1 rfl (lv_room (Nat.le_of_ble_eq_true rfl)) dL_law_779 ⟨show cl + 0 + 0 ≤ 600000 by omega, show sl + ms + 0 ≤ 7302250 by omega⟩) (fun r_2 wm H locs hM hP hD hS => ?_)
  have hP := P_swap hP
  have hD := D_swap hD
  refine lv_pop hx hb dL_law_782 rfl ?_
  refine lv_goto (tgt := 1056) hx hb dL_law_783 (by decide) ?_
  refine lv_iinc (v := nI (i + 6)) (lv' := [(3, .int (nI (i + 6))), (0, .ref b), (1, .ref o), (2, .ref mo)]) hx hb dL_law_1056 hl (k := 3) rfl (nI_add i 6) (by decide) rfl (fun ls hl => ?_)
  refine lv_goto (tgt := 18) hx hb dL_law_1059 (by decide) ?_
  exact kk _ _ _ _ _ ⟨i + 6, wc, wm, _, ph2, rfl, hC, hM, hP, hD, hS, lv_sub hl [1, 2, 3, 0] rfl, by omega, by omega, by omega⟩

set_option maxHeartbeats 4000000 in
set_option maxRecDepth 100000 in
theorem lc_dead {p : Program} {l : Launch} {e : Env} {s : State} {m : MethodId} {below : List Frame} {meth : Method} {c : Code} {b L : Nat} {xs : Nat → Int32} {D : va_G} {cB cI cJ cS cZ cO : ClassId} {A : Nat → Prop} {adK adV : Nat → Nat} {o mo i ph cl sl : Nat} {tm : Int32} {wc wm : va_W} {H : Heap} {locs : List Jvm.Loc} {ls : Array Slot} (C0 : lw_At p s m meth c b L xs) (hL : L ≤ 3072) (hi6 : i + 6 ≤ L) (hK : va_K D vwCl (tyL cB cI cJ cS cZ cO) s) (hN : nwA s) (hE : strE adK adV A s s.heap) (hR : strR adK s) (hA : ∀ q : Nat, s.heap.size ≤ q → A q) (hAf : ∀ q : Nat, A q → s.heap.size ≤ q) (hC : okC cB cI cJ cS cZ cO o tm ph wc) (hM : okM cB cI cJ cS cZ cO mo tm wm) (hP : va_P D vwCl (wc ++ wm) H) (hD : va_D A (wc ++ wm)) (hS : va_S A s.heap H locs) (hl : lv_has ls 4 [(0, .ref b), (1, .ref o), (2, .ref mo), (3, .int (nI i))]) (hcl : cl ≤ 1000 + i) (hsl : sl ≤ 1000000 + 2 * ph) (kk : ∀ (cl2 sl2 : Nat) (H2 : Heap) (locs2 : List Jvm.Loc) (ls2 : Array Slot), LI cB cI cJ cS cZ cO D s A b o mo L (L - (i + 6)) cl2 sl2 H2 locs2 ls2 → W p l e room_1 s m #[Value.ref b] below meth c H2 locs2 cl2 sl2 (lw_Z below #[Value.ref b] s) (F0 m 18 ls2 [])) : W p l e room_1 s m #[Value.ref b] below meth c H locs cl sl (lw_Z below #[Value.ref b] s) (F0 m 786 ls []) := by
  obtain ⟨hx, hb, hr, hml, hown, hts0, hX, hbl, hlocks, hgv⟩ := id C0
  have hts := fun w h => hts0 w (wsL_law_in w h)
  have hbA : ¬ A b := fun h => absurd (hAf b h) (Nat.not_le.mpr hbl)
  refine lv_aload_n hx hb dL_law_786 rfl (lv_at hl 1 rfl) ?_
  obtain ⟨⟨fs, hfs⟩, hph⟩ := okC_o hC
  obtain ⟨ms, hml7, hmet⟩ := p_X10_dead l D cB cI cJ cS cZ cO H.size o tm ph wc  hC
  refine xAi hP hD hS hA (va_runV (As := []) (rest := []) ⟨hx, hb, hml, hown, hts⟩ hmet (cwV 0 hts0 gl_X10_dead rfl rfl rfl (by decide +kernel) ⟨Nat.le_of_ble_eq_true rfl, Nat.le_of_ble_eq_true rfl⟩) (xPreVA hN hK hP hD hfs rfl rfl) rfl rfl hl.1 rfl (lv_room (Nat.le_of_ble_eq_true rfl)) dL_law_787 ⟨show cl + 0 ≤ 600000 by omega, show sl + ms ≤ 7302250 by omega⟩) (fun r_1 wc H locs hw hP hD hS => ?_)
  obtain ⟨ph2, hC, hms⟩ := hw
  refine lv_pop hx hb dL_law_790 rfl ?_
  refine lv_aload_n hx hb dL_law_791 rfl (lv_at hl 2 rfl) ?_
  obtain ⟨fs2, hfs2⟩ := okM_o hM
  have hP := P_swap hP
  have hD := D_swap hD
  have hmet2 := p_X11_dead l D cB cI cJ cS cZ cO H.size mo tm wm  hM
  refine xAi hP hD hS hA (va_runV (As := []) (rest := []) ⟨hx, hb, hml, hown, hts⟩ hmet2 (cwV 0 hts0 gl_X11_dead rfl rfl rfl (by decide +kernel) ⟨Nat.le_of_ble_eq_true rfl, Nat.le_of_ble_eq_true rfl⟩) (xPreVA hN hK hP hD hfs2 rfl rfl) rfl rfl hl.1 rfl (lv_room (Nat.le_of_ble_eq_true rfl)) dL_law_792 ⟨show cl + 0 + 0 ≤ 600000 by omega, show sl + ms + 0 ≤ 7302250 by omega⟩) (fun r_2 wm H locs hM hP hD hS => ?_)
  have hP := P_swap hP
  have hD := D_swap hD
  refine lv_pop hx hb dL_law_795 rfl ?_
  refine lv_goto (tgt := 1056) hx hb dL_law_796 (by decide) ?_
  refine lv_iinc (v := nI (i + 6)) (lv' := [(3, .int (nI (i + 6))), (0, .ref b), (1, .ref o), (2, .ref mo)]) hx hb dL_law_1056 hl (k := 3) rfl (nI_add i 6) (by decide) rfl (fun ls hl => ?_)
  refine lv_goto (tgt := 18) hx hb dL_law_1059 (by decide) ?_
  exact kk _ _ _ _ _ ⟨i + 6, wc, wm, _, ph2, rfl, hC, hM, hP, hD, hS, lv_sub hl [1, 2, 3, 0] rfl, by omega, by omega, by omega⟩

set_option maxHeartbeats 4000000 in
set_option maxRecDepth 100000 in
theorem lc_hear {p : Program} {l : Launch} {e : Env} {s : State} {m : MethodId} {below : List Frame} {meth : Method} {c : Code} {b L : Nat} {xs : Nat → Int32} {D : va_G} {cB cI cJ cS cZ cO : ClassId} {A : Nat → Prop} {adK adV : Nat → Nat} {o mo i ph cl sl : Nat} {tm : Int32} {wc wm : va_W} {H : Heap} {locs : List Jvm.Loc} {ls : Array Slot} (C0 : lw_At p s m meth c b L xs) (hL : L ≤ 3072) (hi6 : i + 6 ≤ L) (hK : va_K D vwCl (tyL cB cI cJ cS cZ cO) s) (hN : nwA s) (hE : strE adK adV A s s.heap) (hR : strR adK s) (hA : ∀ q : Nat, s.heap.size ≤ q → A q) (hAf : ∀ q : Nat, A q → s.heap.size ≤ q) (hC : okC cB cI cJ cS cZ cO o tm ph wc) (hM : okM cB cI cJ cS cZ cO mo tm wm) (hP : va_P D vwCl (wc ++ wm) H) (hD : va_D A (wc ++ wm)) (hS : va_S A s.heap H locs) (hl : lv_has ls 4 [(0, .ref b), (1, .ref o), (2, .ref mo), (3, .int (nI i))]) (hcl : cl ≤ 1000 + i) (hsl : sl ≤ 1000000 + 2 * ph) (kk : ∀ (cl2 sl2 : Nat) (H2 : Heap) (locs2 : List Jvm.Loc) (ls2 : Array Slot), LI cB cI cJ cS cZ cO D s A b o mo L (L - (i + 6)) cl2 sl2 H2 locs2 ls2 → W p l e room_1 s m #[Value.ref b] below meth c H2 locs2 cl2 sl2 (lw_Z below #[Value.ref b] s) (F0 m 18 ls2 [])) : W p l e room_1 s m #[Value.ref b] below meth c H locs cl sl (lw_Z below #[Value.ref b] s) (F0 m 799 ls []) := by
  obtain ⟨hx, hb, hr, hml, hown, hts0, hX, hbl, hlocks, hgv⟩ := id C0
  have hts := fun w h => hts0 w (wsL_law_in w h)
  have hbA : ¬ A b := fun h => absurd (hAf b h) (Nat.not_le.mpr hbl)
  refine lv_aload_n hx hb dL_law_799 rfl (lv_at hl 1 rfl) ?_
  refine lv_aload_n hx hb dL_law_800 rfl (lv_at hl 0 rfl) ?_
  refine lv_iload_n hx hb dL_law_801 rfl (lv_at hl 3 rfl) ?_
  refine lv_iconst (v := 1) hx hb dL_law_802 (by decide) ?_
  refine lv_iadd hx hb dL_law_803 ?_
  refine xb_top (y := nI (i + 1)) (nI_add i 1) ?_
  refine va_sld hx hb hX hbl hbA hS (vp_in_nI (by omega) (by omega)) dL_law_804 ?_
  refine xb_top (y := xs (i + 1)) (by rw [nI_clamp (by omega)]) ?_
  refine lv_aload_n hx hb dL_law_805 rfl (lv_at hl 0 rfl) ?_
  refine lv_iload_n hx hb dL_law_806 rfl (lv_at hl 3 rfl) ?_
  refine lv_iconst (v := 2) hx hb dL_law_807 (by decide) ?_
  refine lv_iadd hx hb dL_law_808 ?_
  refine xb_top (y := nI (i + 2)) (nI_add i 2) ?_
  refine va_sld hx hb hX hbl hbA hS (vp_in_nI (by omega) (by omega)) dL_law_809 ?_
  refine xb_top (y := xs (i + 2)) (by rw [nI_clamp (by omega)]) ?_
  refine lv_aload_n hx hb dL_law_810 rfl (lv_at hl 0 rfl) ?_
  refine lv_iload_n hx hb dL_law_811 rfl (lv_at hl 3 rfl) ?_
  refine lv_iconst (v := 3) hx hb dL_law_812 (by decide) ?_
  refine lv_iadd hx hb dL_law_813 ?_
  refine xb_top (y := nI (i + 3)) (nI_add i 3) ?_
  refine va_sld hx hb hX hbl hbA hS (vp_in_nI (by omega) (by omega)) dL_law_814 ?_
  refine xb_top (y := xs (i + 3)) (by rw [nI_clamp (by omega)]) ?_
  obtain ⟨⟨fs, hfs⟩, hph⟩ := okC_o hC
  obtain ⟨ms, hml7, hmet⟩ := p_X10_hear l D cB cI cJ cS cZ cO H.size o tm ph wc (xs (i + 1)) (xs (i + 2)) (xs (i + 3)) hC
  refine xAi hP hD hS hA (va_runV (As := [.int (xs (i + 1)), .int (xs (i + 2)), .int (xs (i + 3))]) (rest := []) ⟨hx, hb, hml, hown, hts⟩ hmet (cwV 3 hts0 gl_X10_hear rfl rfl rfl (by decide +kernel) ⟨Nat.le_of_ble_eq_true rfl, Nat.le_of_ble_eq_true rfl⟩) (xPreVA hN hK hP hD hfs rfl rfl) rfl rfl hl.1 rfl (lv_room (Nat.le_of_ble_eq_true rfl)) dL_law_815 ⟨show cl + 0 ≤ 600000 by omega, show sl + ms ≤ 7302250 by omega⟩) (fun r_1 wc H locs hw hP hD hS => ?_)
  obtain ⟨ph2, hC, hms⟩ := hw
  refine lv_pop hx hb dL_law_818 rfl ?_
  refine lv_aload_n hx hb dL_law_819 rfl (lv_at hl 2 rfl) ?_
  refine lv_aload_n hx hb dL_law_820 rfl (lv_at hl 0 rfl) ?_
  refine lv_iload_n hx hb dL_law_821 rfl (lv_at hl 3 rfl) ?_
  refine lv_iconst (v := 1) hx hb dL_law_822 (by decide) ?_
  refine lv_iadd hx hb dL_law_823 ?_
  refine xb_top (y := nI (i + 1)) (nI_add i 1) ?_
  refine va_sld hx hb hX hbl hbA hS (vp_in_nI (by omega) (by omega)) dL_law_824 ?_
  refine xb_top (y := xs (i + 1)) (by rw [nI_clamp (by omega)]) ?_
  refine lv_aload_n hx hb dL_law_825 rfl (lv_at hl 0 rfl) ?_
  refine lv_iload_n hx hb dL_law_826 rfl (lv_at hl 3 rfl) ?_
  refine lv_iconst (v := 2) hx hb dL_law_827 (by decide) ?_
  refine lv_iadd hx hb dL_law_828 ?_
  refine xb_top (y := nI (i + 2)) (nI_add i 2) ?_
  refine va_sld hx hb hX hbl hbA hS (vp_in_nI (by omega) (by omega)) dL_law_829 ?_
  refine xb_top (y := xs (i + 2)) (by rw [nI_clamp (by omega)]) ?_
  refine lv_aload_n hx hb dL_law_830 rfl (lv_at hl 0 rfl) ?_
  refine lv_iload_n hx hb dL_law_831 rfl (lv_at hl 3 rfl) ?_
  refine lv_iconst (v := 3) hx hb dL_law_832 (by decide) ?_
  refine lv_iadd hx hb dL_law_833 ?_
  refine xb_top (y := nI (i + 3)) (nI_add i 3) ?_
  refine va_sld hx hb hX hbl hbA hS (vp_in_nI (by omega) (by omega)) dL_law_834 ?_
  refine xb_top (y := xs (i + 3)) (by rw [nI_clamp (by omega)]) ?_
  obtain ⟨fs2, hfs2⟩ := okM_o hM
  have hP := P_swap hP
  have hD := D_swap hD
  have hmet2 := p_X11_hear l D cB cI cJ cS cZ cO H.size mo tm wm (xs (i + 1)) (xs (i + 2)) (xs (i + 3)) hM
  refine xAi hP hD hS hA (va_runV (As := [.int (xs (i + 1)), .int (xs (i + 2)), .int (xs (i + 3))]) (rest := []) ⟨hx, hb, hml, hown, hts⟩ hmet2 (cwV 3 hts0 gl_X11_hear rfl rfl rfl (by decide +kernel) ⟨Nat.le_of_ble_eq_true rfl, Nat.le_of_ble_eq_true rfl⟩) (xPreVA hN hK hP hD hfs2 rfl rfl) rfl rfl hl.1 rfl (lv_room (Nat.le_of_ble_eq_true rfl)) dL_law_835 ⟨show cl + 0 + 0 ≤ 600000 by omega, show sl + ms + 0 ≤ 7302250 by omega⟩) (fun r_2 wm H locs hM hP hD hS => ?_)
  have hP := P_swap hP
  have hD := D_swap hD
  refine lv_pop hx hb dL_law_838 rfl ?_
  refine lv_goto (tgt := 1056) hx hb dL_law_839 (by decide) ?_
  refine lv_iinc (v := nI (i + 6)) (lv' := [(3, .int (nI (i + 6))), (0, .ref b), (1, .ref o), (2, .ref mo)]) hx hb dL_law_1056 hl (k := 3) rfl (nI_add i 6) (by decide) rfl (fun ls hl => ?_)
  refine lv_goto (tgt := 18) hx hb dL_law_1059 (by decide) ?_
  exact kk _ _ _ _ _ ⟨i + 6, wc, wm, _, ph2, rfl, hC, hM, hP, hD, hS, lv_sub hl [1, 2, 3, 0] rfl, by omega, by omega, by omega⟩

set_option maxHeartbeats 4000000 in
set_option maxRecDepth 100000 in
theorem lc_untell {p : Program} {l : Launch} {e : Env} {s : State} {m : MethodId} {below : List Frame} {meth : Method} {c : Code} {b L : Nat} {xs : Nat → Int32} {D : va_G} {cB cI cJ cS cZ cO : ClassId} {A : Nat → Prop} {adK adV : Nat → Nat} {o mo i ph cl sl : Nat} {tm : Int32} {wc wm : va_W} {H : Heap} {locs : List Jvm.Loc} {ls : Array Slot} (C0 : lw_At p s m meth c b L xs) (hL : L ≤ 3072) (hi6 : i + 6 ≤ L) (hK : va_K D vwCl (tyL cB cI cJ cS cZ cO) s) (hN : nwA s) (hE : strE adK adV A s s.heap) (hR : strR adK s) (hA : ∀ q : Nat, s.heap.size ≤ q → A q) (hAf : ∀ q : Nat, A q → s.heap.size ≤ q) (hC : okC cB cI cJ cS cZ cO o tm ph wc) (hM : okM cB cI cJ cS cZ cO mo tm wm) (hP : va_P D vwCl (wc ++ wm) H) (hD : va_D A (wc ++ wm)) (hS : va_S A s.heap H locs) (hl : lv_has ls 4 [(0, .ref b), (1, .ref o), (2, .ref mo), (3, .int (nI i))]) (hcl : cl ≤ 1000 + i) (hsl : sl ≤ 1000000 + 2 * ph) (kk : ∀ (cl2 sl2 : Nat) (H2 : Heap) (locs2 : List Jvm.Loc) (ls2 : Array Slot), LI cB cI cJ cS cZ cO D s A b o mo L (L - (i + 6)) cl2 sl2 H2 locs2 ls2 → W p l e room_1 s m #[Value.ref b] below meth c H2 locs2 cl2 sl2 (lw_Z below #[Value.ref b] s) (F0 m 18 ls2 [])) : W p l e room_1 s m #[Value.ref b] below meth c H locs cl sl (lw_Z below #[Value.ref b] s) (F0 m 842 ls []) := by
  obtain ⟨hx, hb, hr, hml, hown, hts0, hX, hbl, hlocks, hgv⟩ := id C0
  have hts := fun w h => hts0 w (wsL_law_in w h)
  have hbA : ¬ A b := fun h => absurd (hAf b h) (Nat.not_le.mpr hbl)
  refine lv_aload_n hx hb dL_law_842 rfl (lv_at hl 1 rfl) ?_
  refine lv_aload_n hx hb dL_law_843 rfl (lv_at hl 0 rfl) ?_
  refine lv_iload_n hx hb dL_law_844 rfl (lv_at hl 3 rfl) ?_
  refine lv_iconst (v := 1) hx hb dL_law_845 (by decide) ?_
  refine lv_iadd hx hb dL_law_846 ?_
  refine xb_top (y := nI (i + 1)) (nI_add i 1) ?_
  refine va_sld hx hb hX hbl hbA hS (vp_in_nI (by omega) (by omega)) dL_law_847 ?_
  refine xb_top (y := xs (i + 1)) (by rw [nI_clamp (by omega)]) ?_
  obtain ⟨⟨fs, hfs⟩, hph⟩ := okC_o hC
  obtain ⟨ms, hml7, hmet⟩ := p_X10_untell l D cB cI cJ cS cZ cO H.size o tm ph wc (xs (i + 1)) hC
  refine xAi hP hD hS hA (va_runV (As := [.int (xs (i + 1))]) (rest := []) ⟨hx, hb, hml, hown, hts⟩ hmet (cwV 1 hts0 gl_X10_untell rfl rfl rfl (by decide +kernel) ⟨Nat.le_of_ble_eq_true rfl, Nat.le_of_ble_eq_true rfl⟩) (xPreVA hN hK hP hD hfs rfl rfl) rfl rfl hl.1 rfl (lv_room (Nat.le_of_ble_eq_true rfl)) dL_law_848 ⟨show cl + 0 ≤ 600000 by omega, show sl + ms ≤ 7302250 by omega⟩) (fun r_1 wc H locs hw hP hD hS => ?_)
  obtain ⟨ph2, hC, hms⟩ := hw
  refine lv_pop hx hb dL_law_851 rfl ?_
  refine lv_aload_n hx hb dL_law_852 rfl (lv_at hl 2 rfl) ?_
  refine lv_aload_n hx hb dL_law_853 rfl (lv_at hl 0 rfl) ?_
  refine lv_iload_n hx hb dL_law_854 rfl (lv_at hl 3 rfl) ?_
  refine lv_iconst (v := 1) hx hb dL_law_855 (by decide) ?_
  refine lv_iadd hx hb dL_law_856 ?_
  refine xb_top (y := nI (i + 1)) (nI_add i 1) ?_
  refine va_sld hx hb hX hbl hbA hS (vp_in_nI (by omega) (by omega)) dL_law_857 ?_
  refine xb_top (y := xs (i + 1)) (by rw [nI_clamp (by omega)]) ?_
  obtain ⟨fs2, hfs2⟩ := okM_o hM
  have hP := P_swap hP
  have hD := D_swap hD
  have hmet2 := p_X11_untell l D cB cI cJ cS cZ cO H.size mo tm wm (xs (i + 1)) hM
  refine xAi hP hD hS hA (va_runV (As := [.int (xs (i + 1))]) (rest := []) ⟨hx, hb, hml, hown, hts⟩ hmet2 (cwV 1 hts0 gl_X11_untell rfl rfl rfl (by decide +kernel) ⟨Nat.le_of_ble_eq_true rfl, Nat.le_of_ble_eq_true rfl⟩) (xPreVA hN hK hP hD hfs2 rfl rfl) rfl rfl hl.1 rfl (lv_room (Nat.le_of_ble_eq_true rfl)) dL_law_858 ⟨show cl + 0 + 0 ≤ 600000 by omega, show sl + ms + 0 ≤ 7302250 by omega⟩) (fun r_2 wm H locs hM hP hD hS => ?_)
  have hP := P_swap hP
  have hD := D_swap hD
  refine lv_pop hx hb dL_law_861 rfl ?_
  refine lv_goto (tgt := 1056) hx hb dL_law_862 (by decide) ?_
  refine lv_iinc (v := nI (i + 6)) (lv' := [(3, .int (nI (i + 6))), (0, .ref b), (1, .ref o), (2, .ref mo)]) hx hb dL_law_1056 hl (k := 3) rfl (nI_add i 6) (by decide) rfl (fun ls hl => ?_)
  refine lv_goto (tgt := 18) hx hb dL_law_1059 (by decide) ?_
  exact kk _ _ _ _ _ ⟨i + 6, wc, wm, _, ph2, rfl, hC, hM, hP, hD, hS, lv_sub hl [1, 2, 3, 0] rfl, by omega, by omega, by omega⟩

set_option maxHeartbeats 4000000 in
set_option maxRecDepth 100000 in
theorem lc_later {p : Program} {l : Launch} {e : Env} {s : State} {m : MethodId} {below : List Frame} {meth : Method} {c : Code} {b L : Nat} {xs : Nat → Int32} {D : va_G} {cB cI cJ cS cZ cO : ClassId} {A : Nat → Prop} {adK adV : Nat → Nat} {o mo i ph cl sl : Nat} {tm : Int32} {wc wm : va_W} {H : Heap} {locs : List Jvm.Loc} {ls : Array Slot} (C0 : lw_At p s m meth c b L xs) (hL : L ≤ 3072) (hi6 : i + 6 ≤ L) (hK : va_K D vwCl (tyL cB cI cJ cS cZ cO) s) (hN : nwA s) (hE : strE adK adV A s s.heap) (hR : strR adK s) (hA : ∀ q : Nat, s.heap.size ≤ q → A q) (hAf : ∀ q : Nat, A q → s.heap.size ≤ q) (hC : okC cB cI cJ cS cZ cO o tm ph wc) (hM : okM cB cI cJ cS cZ cO mo tm wm) (hP : va_P D vwCl (wc ++ wm) H) (hD : va_D A (wc ++ wm)) (hS : va_S A s.heap H locs) (hl : lv_has ls 4 [(0, .ref b), (1, .ref o), (2, .ref mo), (3, .int (nI i))]) (hcl : cl ≤ 1000 + i) (hsl : sl ≤ 1000000 + 2 * ph) (kk : ∀ (cl2 sl2 : Nat) (H2 : Heap) (locs2 : List Jvm.Loc) (ls2 : Array Slot), LI cB cI cJ cS cZ cO D s A b o mo L (L - (i + 6)) cl2 sl2 H2 locs2 ls2 → W p l e room_1 s m #[Value.ref b] below meth c H2 locs2 cl2 sl2 (lw_Z below #[Value.ref b] s) (F0 m 18 ls2 [])) : W p l e room_1 s m #[Value.ref b] below meth c H locs cl sl (lw_Z below #[Value.ref b] s) (F0 m 865 ls []) := by
  obtain ⟨hx, hb, hr, hml, hown, hts0, hX, hbl, hlocks, hgv⟩ := id C0
  have hts := fun w h => hts0 w (wsL_law_in w h)
  have hbA : ¬ A b := fun h => absurd (hAf b h) (Nat.not_le.mpr hbl)
  refine lv_aload_n hx hb dL_law_865 rfl (lv_at hl 1 rfl) ?_
  refine lv_aload_n hx hb dL_law_866 rfl (lv_at hl 0 rfl) ?_
  refine lv_iload_n hx hb dL_law_867 rfl (lv_at hl 3 rfl) ?_
  refine lv_iconst (v := 1) hx hb dL_law_868 (by decide) ?_
  refine lv_iadd hx hb dL_law_869 ?_
  refine xb_top (y := nI (i + 1)) (nI_add i 1) ?_
  refine va_sld hx hb hX hbl hbA hS (vp_in_nI (by omega) (by omega)) dL_law_870 ?_
  refine xb_top (y := xs (i + 1)) (by rw [nI_clamp (by omega)]) ?_
  obtain ⟨⟨fs, hfs⟩, hph⟩ := okC_o hC
  obtain ⟨ms, hml7, hmet⟩ := p_X10_later l D cB cI cJ cS cZ cO H.size o tm ph wc (xs (i + 1)) hC
  refine xAi hP hD hS hA (va_runV (As := [.int (xs (i + 1))]) (rest := []) ⟨hx, hb, hml, hown, hts⟩ hmet (cwV 1 hts0 gl_X10_later rfl rfl rfl (by decide +kernel) ⟨Nat.le_of_ble_eq_true rfl, Nat.le_of_ble_eq_true rfl⟩) (xPreVA hN hK hP hD hfs rfl rfl) rfl rfl hl.1 rfl (lv_room (Nat.le_of_ble_eq_true rfl)) dL_law_871 ⟨show cl + 0 ≤ 600000 by omega, show sl + ms ≤ 7302250 by omega⟩) (fun r_1 wc H locs hw hP hD hS => ?_)
  obtain ⟨⟨ph2, hC, hms⟩, hlat⟩ := hw
  refine lv_aload_n hx hb dL_law_874 rfl (lv_at hl 2 rfl) ?_
  refine lv_aload_n hx hb dL_law_875 rfl (lv_at hl 0 rfl) ?_
  refine lv_iload_n hx hb dL_law_876 rfl (lv_at hl 3 rfl) ?_
  refine lv_iconst (v := 1) hx hb dL_law_877 (by decide) ?_
  refine lv_iadd hx hb dL_law_878 ?_
  refine xb_top (y := nI (i + 1)) (nI_add i 1) ?_
  refine va_sld hx hb hX hbl hbA hS (vp_in_nI (by omega) (by omega)) dL_law_879 ?_
  refine xb_top (y := xs (i + 1)) (by rw [nI_clamp (by omega)]) ?_
  obtain ⟨fs2, hfs2⟩ := okM_o hM
  have hP := P_swap hP
  have hD := D_swap hD
  have hmet2 := p_X11_later l D cB cI cJ cS cZ cO H.size mo tm wm (xs (i + 1)) hM
  refine xAi hP hD hS hA (va_runV (As := [.int (xs (i + 1))]) (rest := [.int r_1]) ⟨hx, hb, hml, hown, hts⟩ hmet2 (cwV 1 hts0 gl_X11_later rfl rfl rfl (by decide +kernel) ⟨Nat.le_of_ble_eq_true rfl, Nat.le_of_ble_eq_true rfl⟩) (xPreVA hN hK hP hD hfs2 rfl rfl) rfl rfl hl.1 rfl (lv_room (Nat.le_of_ble_eq_true rfl)) dL_law_880 ⟨show cl + 0 + 0 ≤ 600000 by omega, show sl + ms + 0 ≤ 7302250 by omega⟩) (fun r_2 wm H locs hM hP hD hS => ?_)
  have hP := P_swap hP
  have hD := D_swap hD
  obtain ⟨hM, hlat2⟩ := hM
  refine lv_icmp_eq (tgt := 1056) hx hb dL_law_883 (by decide) (fun c_3 => ?_) (fun c_3 => absurd (hlat.trans hlat2.symm) c_3)
  refine lv_iinc (v := nI (i + 6)) (lv' := [(3, .int (nI (i + 6))), (0, .ref b), (1, .ref o), (2, .ref mo)]) hx hb dL_law_1056 hl (k := 3) rfl (nI_add i 6) (by decide) rfl (fun ls hl => ?_)
  refine lv_goto (tgt := 18) hx hb dL_law_1059 (by decide) ?_
  exact kk _ _ _ _ _ ⟨i + 6, wc, wm, _, ph2, rfl, hC, hM, hP, hD, hS, lv_sub hl [1, 2, 3, 0] rfl, by omega, by omega, by omega⟩

set_option maxHeartbeats 4000000 in
set_option maxRecDepth 100000 in
theorem lc_fits {p : Program} {l : Launch} {e : Env} {s : State} {m : MethodId} {below : List Frame} {meth : Method} {c : Code} {b L : Nat} {xs : Nat → Int32} {D : va_G} {cB cI cJ cS cZ cO : ClassId} {A : Nat → Prop} {adK adV : Nat → Nat} {o mo i ph cl sl : Nat} {tm : Int32} {wc wm : va_W} {H : Heap} {locs : List Jvm.Loc} {ls : Array Slot} (C0 : lw_At p s m meth c b L xs) (hL : L ≤ 3072) (hi6 : i + 6 ≤ L) (hK : va_K D vwCl (tyL cB cI cJ cS cZ cO) s) (hN : nwA s) (hE : strE adK adV A s s.heap) (hR : strR adK s) (hA : ∀ q : Nat, s.heap.size ≤ q → A q) (hAf : ∀ q : Nat, A q → s.heap.size ≤ q) (hC : okC cB cI cJ cS cZ cO o tm ph wc) (hM : okM cB cI cJ cS cZ cO mo tm wm) (hP : va_P D vwCl (wc ++ wm) H) (hD : va_D A (wc ++ wm)) (hS : va_S A s.heap H locs) (hl : lv_has ls 4 [(0, .ref b), (1, .ref o), (2, .ref mo), (3, .int (nI i))]) (hcl : cl ≤ 1000 + i) (hsl : sl ≤ 1000000 + 2 * ph) (kk : ∀ (cl2 sl2 : Nat) (H2 : Heap) (locs2 : List Jvm.Loc) (ls2 : Array Slot), LI cB cI cJ cS cZ cO D s A b o mo L (L - (i + 6)) cl2 sl2 H2 locs2 ls2 → W p l e room_1 s m #[Value.ref b] below meth c H2 locs2 cl2 sl2 (lw_Z below #[Value.ref b] s) (F0 m 18 ls2 [])) : W p l e room_1 s m #[Value.ref b] below meth c H locs cl sl (lw_Z below #[Value.ref b] s) (F0 m 888 ls []) := by
  obtain ⟨hx, hb, hr, hml, hown, hts0, hX, hbl, hlocks, hgv⟩ := id C0
  have hts := fun w h => hts0 w (wsL_law_in w h)
  have hbA : ¬ A b := fun h => absurd (hAf b h) (Nat.not_le.mpr hbl)
  refine lv_aload_n hx hb dL_law_888 rfl (lv_at hl 1 rfl) ?_
  refine lv_aload_n hx hb dL_law_889 rfl (lv_at hl 0 rfl) ?_
  refine lv_iload_n hx hb dL_law_890 rfl (lv_at hl 3 rfl) ?_
  refine lv_iconst (v := 1) hx hb dL_law_891 (by decide) ?_
  refine lv_iadd hx hb dL_law_892 ?_
  refine xb_top (y := nI (i + 1)) (nI_add i 1) ?_
  refine va_sld hx hb hX hbl hbA hS (vp_in_nI (by omega) (by omega)) dL_law_893 ?_
  refine xb_top (y := xs (i + 1)) (by rw [nI_clamp (by omega)]) ?_
  refine lv_aload_n hx hb dL_law_894 rfl (lv_at hl 0 rfl) ?_
  refine lv_iload_n hx hb dL_law_895 rfl (lv_at hl 3 rfl) ?_
  refine lv_iconst (v := 2) hx hb dL_law_896 (by decide) ?_
  refine lv_iadd hx hb dL_law_897 ?_
  refine xb_top (y := nI (i + 2)) (nI_add i 2) ?_
  refine va_sld hx hb hX hbl hbA hS (vp_in_nI (by omega) (by omega)) dL_law_898 ?_
  refine xb_top (y := xs (i + 2)) (by rw [nI_clamp (by omega)]) ?_
  obtain ⟨⟨fs, hfs⟩, hph⟩ := okC_o hC
  obtain ⟨ms, hml7, hmet⟩ := p_X10_fits l D cB cI cJ cS cZ cO H.size o tm ph wc (xs (i + 1)) (xs (i + 2)) hC
  refine xAl hP hD hS hA (va_runV (As := [.int (xs (i + 1)), .int (xs (i + 2))]) (rest := []) ⟨hx, hb, hml, hown, hts⟩ hmet (cwV 2 hts0 gl_X10_fits rfl rfl rfl (by decide +kernel) ⟨Nat.le_of_ble_eq_true rfl, Nat.le_of_ble_eq_true rfl⟩) (xPreVA hN hK hP hD hfs rfl rfl) rfl rfl hl.1 rfl (lv_room (Nat.le_of_ble_eq_true rfl)) dL_law_899 ⟨show cl + 0 ≤ 600000 by omega, show sl + ms ≤ 7302250 by omega⟩) (fun r_1 wc H locs hw hP hD hS => ?_)
  obtain ⟨ph2, hC, hms⟩ := hw
  refine lv_pop2_2 hx hb dL_law_902 rfl ?_
  refine lv_aload_n hx hb dL_law_903 rfl (lv_at hl 2 rfl) ?_
  refine lv_aload_n hx hb dL_law_904 rfl (lv_at hl 0 rfl) ?_
  refine lv_iload_n hx hb dL_law_905 rfl (lv_at hl 3 rfl) ?_
  refine lv_iconst (v := 1) hx hb dL_law_906 (by decide) ?_
  refine lv_iadd hx hb dL_law_907 ?_
  refine xb_top (y := nI (i + 1)) (nI_add i 1) ?_
  refine va_sld hx hb hX hbl hbA hS (vp_in_nI (by omega) (by omega)) dL_law_908 ?_
  refine xb_top (y := xs (i + 1)) (by rw [nI_clamp (by omega)]) ?_
  refine lv_aload_n hx hb dL_law_909 rfl (lv_at hl 0 rfl) ?_
  refine lv_iload_n hx hb dL_law_910 rfl (lv_at hl 3 rfl) ?_
  refine lv_iconst (v := 2) hx hb dL_law_911 (by decide) ?_
  refine lv_iadd hx hb dL_law_912 ?_
  refine xb_top (y := nI (i + 2)) (nI_add i 2) ?_
  refine va_sld hx hb hX hbl hbA hS (vp_in_nI (by omega) (by omega)) dL_law_913 ?_
  refine xb_top (y := xs (i + 2)) (by rw [nI_clamp (by omega)]) ?_
  obtain ⟨fs2, hfs2⟩ := okM_o hM
  have hP := P_swap hP
  have hD := D_swap hD
  have hmet2 := p_X11_fits l D cB cI cJ cS cZ cO H.size mo tm wm (xs (i + 1)) (xs (i + 2)) hM
  refine xAl hP hD hS hA (va_runV (As := [.int (xs (i + 1)), .int (xs (i + 2))]) (rest := []) ⟨hx, hb, hml, hown, hts⟩ hmet2 (cwV 2 hts0 gl_X11_fits rfl rfl rfl (by decide +kernel) ⟨Nat.le_of_ble_eq_true rfl, Nat.le_of_ble_eq_true rfl⟩) (xPreVA hN hK hP hD hfs2 rfl rfl) rfl rfl hl.1 rfl (lv_room (Nat.le_of_ble_eq_true rfl)) dL_law_914 ⟨show cl + 0 + 0 ≤ 600000 by omega, show sl + ms + 0 ≤ 7302250 by omega⟩) (fun r_2 wm H locs hM hP hD hS => ?_)
  have hP := P_swap hP
  have hD := D_swap hD
  refine lv_pop2_2 hx hb dL_law_917 rfl ?_
  refine lv_goto (tgt := 1056) hx hb dL_law_918 (by decide) ?_
  refine lv_iinc (v := nI (i + 6)) (lv' := [(3, .int (nI (i + 6))), (0, .ref b), (1, .ref o), (2, .ref mo)]) hx hb dL_law_1056 hl (k := 3) rfl (nI_add i 6) (by decide) rfl (fun ls hl => ?_)
  refine lv_goto (tgt := 18) hx hb dL_law_1059 (by decide) ?_
  exact kk _ _ _ _ _ ⟨i + 6, wc, wm, _, ph2, rfl, hC, hM, hP, hD, hS, lv_sub hl [1, 2, 3, 0] rfl, by omega, by omega, by omega⟩

set_option maxHeartbeats 4000000 in
set_option maxRecDepth 100000 in
theorem lc_can {p : Program} {l : Launch} {e : Env} {s : State} {m : MethodId} {below : List Frame} {meth : Method} {c : Code} {b L : Nat} {xs : Nat → Int32} {D : va_G} {cB cI cJ cS cZ cO : ClassId} {A : Nat → Prop} {adK adV : Nat → Nat} {o mo i ph cl sl : Nat} {tm : Int32} {wc wm : va_W} {H : Heap} {locs : List Jvm.Loc} {ls : Array Slot} (C0 : lw_At p s m meth c b L xs) (hL : L ≤ 3072) (hi6 : i + 6 ≤ L) (hK : va_K D vwCl (tyL cB cI cJ cS cZ cO) s) (hN : nwA s) (hE : strE adK adV A s s.heap) (hR : strR adK s) (hA : ∀ q : Nat, s.heap.size ≤ q → A q) (hAf : ∀ q : Nat, A q → s.heap.size ≤ q) (hC : okC cB cI cJ cS cZ cO o tm ph wc) (hM : okM cB cI cJ cS cZ cO mo tm wm) (hP : va_P D vwCl (wc ++ wm) H) (hD : va_D A (wc ++ wm)) (hS : va_S A s.heap H locs) (hl : lv_has ls 4 [(0, .ref b), (1, .ref o), (2, .ref mo), (3, .int (nI i))]) (hcl : cl ≤ 1000 + i) (hsl : sl ≤ 1000000 + 2 * ph) (kk : ∀ (cl2 sl2 : Nat) (H2 : Heap) (locs2 : List Jvm.Loc) (ls2 : Array Slot), LI cB cI cJ cS cZ cO D s A b o mo L (L - (i + 6)) cl2 sl2 H2 locs2 ls2 → W p l e room_1 s m #[Value.ref b] below meth c H2 locs2 cl2 sl2 (lw_Z below #[Value.ref b] s) (F0 m 18 ls2 [])) : W p l e room_1 s m #[Value.ref b] below meth c H locs cl sl (lw_Z below #[Value.ref b] s) (F0 m 921 ls []) := by
  obtain ⟨hx, hb, hr, hml, hown, hts0, hX, hbl, hlocks, hgv⟩ := id C0
  have hts := fun w h => hts0 w (wsL_law_in w h)
  have hbA : ¬ A b := fun h => absurd (hAf b h) (Nat.not_le.mpr hbl)
  refine lv_aload_n hx hb dL_law_921 rfl (lv_at hl 1 rfl) ?_
  refine lv_aload_n hx hb dL_law_922 rfl (lv_at hl 0 rfl) ?_
  refine lv_iload_n hx hb dL_law_923 rfl (lv_at hl 3 rfl) ?_
  refine lv_iconst (v := 1) hx hb dL_law_924 (by decide) ?_
  refine lv_iadd hx hb dL_law_925 ?_
  refine xb_top (y := nI (i + 1)) (nI_add i 1) ?_
  refine va_sld hx hb hX hbl hbA hS (vp_in_nI (by omega) (by omega)) dL_law_926 ?_
  refine xb_top (y := xs (i + 1)) (by rw [nI_clamp (by omega)]) ?_
  refine lv_aload_n hx hb dL_law_927 rfl (lv_at hl 0 rfl) ?_
  refine lv_iload_n hx hb dL_law_928 rfl (lv_at hl 3 rfl) ?_
  refine lv_iconst (v := 2) hx hb dL_law_929 (by decide) ?_
  refine lv_iadd hx hb dL_law_930 ?_
  refine xb_top (y := nI (i + 2)) (nI_add i 2) ?_
  refine va_sld hx hb hX hbl hbA hS (vp_in_nI (by omega) (by omega)) dL_law_931 ?_
  refine xb_top (y := xs (i + 2)) (by rw [nI_clamp (by omega)]) ?_
  refine lv_aload_n hx hb dL_law_932 rfl (lv_at hl 0 rfl) ?_
  refine lv_iload_n hx hb dL_law_933 rfl (lv_at hl 3 rfl) ?_
  refine lv_iconst (v := 3) hx hb dL_law_934 (by decide) ?_
  refine lv_iadd hx hb dL_law_935 ?_
  refine xb_top (y := nI (i + 3)) (nI_add i 3) ?_
  refine va_sld hx hb hX hbl hbA hS (vp_in_nI (by omega) (by omega)) dL_law_936 ?_
  refine xb_top (y := xs (i + 3)) (by rw [nI_clamp (by omega)]) ?_
  obtain ⟨⟨fs, hfs⟩, hph⟩ := okC_o hC
  obtain ⟨ms, hml7, hmet⟩ := p_X10_can l D cB cI cJ cS cZ cO H.size o tm ph wc (xs (i + 1)) (xs (i + 2)) (xs (i + 3)) hC
  refine xAi hP hD hS hA (va_runV (As := [.int (xs (i + 1)), .int (xs (i + 2)), .int (xs (i + 3))]) (rest := []) ⟨hx, hb, hml, hown, hts⟩ hmet (cwV 3 hts0 gl_X10_can rfl rfl rfl (by decide +kernel) ⟨Nat.le_of_ble_eq_true rfl, Nat.le_of_ble_eq_true rfl⟩) (xPreVA hN hK hP hD hfs rfl rfl) rfl rfl hl.1 rfl (lv_room (Nat.le_of_ble_eq_true rfl)) dL_law_937 ⟨show cl + 0 ≤ 600000 by omega, show sl + ms ≤ 7302250 by omega⟩) (fun r_1 wc H locs hw hP hD hS => ?_)
  obtain ⟨ph2, hC, hms⟩ := hw
  refine lv_pop hx hb dL_law_940 rfl ?_
  refine lv_aload_n hx hb dL_law_941 rfl (lv_at hl 2 rfl) ?_
  refine lv_aload_n hx hb dL_law_942 rfl (lv_at hl 0 rfl) ?_
  refine lv_iload_n hx hb dL_law_943 rfl (lv_at hl 3 rfl) ?_
  refine lv_iconst (v := 1) hx hb dL_law_944 (by decide) ?_
  refine lv_iadd hx hb dL_law_945 ?_
  refine xb_top (y := nI (i + 1)) (nI_add i 1) ?_
  refine va_sld hx hb hX hbl hbA hS (vp_in_nI (by omega) (by omega)) dL_law_946 ?_
  refine xb_top (y := xs (i + 1)) (by rw [nI_clamp (by omega)]) ?_
  refine lv_aload_n hx hb dL_law_947 rfl (lv_at hl 0 rfl) ?_
  refine lv_iload_n hx hb dL_law_948 rfl (lv_at hl 3 rfl) ?_
  refine lv_iconst (v := 2) hx hb dL_law_949 (by decide) ?_
  refine lv_iadd hx hb dL_law_950 ?_
  refine xb_top (y := nI (i + 2)) (nI_add i 2) ?_
  refine va_sld hx hb hX hbl hbA hS (vp_in_nI (by omega) (by omega)) dL_law_951 ?_
  refine xb_top (y := xs (i + 2)) (by rw [nI_clamp (by omega)]) ?_
  refine lv_aload_n hx hb dL_law_952 rfl (lv_at hl 0 rfl) ?_
  refine lv_iload_n hx hb dL_law_953 rfl (lv_at hl 3 rfl) ?_
  refine lv_iconst (v := 3) hx hb dL_law_954 (by decide) ?_
  refine lv_iadd hx hb dL_law_955 ?_
  refine xb_top (y := nI (i + 3)) (nI_add i 3) ?_
  refine va_sld hx hb hX hbl hbA hS (vp_in_nI (by omega) (by omega)) dL_law_956 ?_
  refine xb_top (y := xs (i + 3)) (by rw [nI_clamp (by omega)]) ?_
  obtain ⟨fs2, hfs2⟩ := okM_o hM
  have hP := P_swap hP
  have hD := D_swap hD
  have hmet2 := p_X11_can l D cB cI cJ cS cZ cO H.size mo tm wm (xs (i + 1)) (xs (i + 2)) (xs (i + 3)) hM
  refine xAi hP hD hS hA (va_runV (As := [.int (xs (i + 1)), .int (xs (i + 2)), .int (xs (i + 3))]) (rest := []) ⟨hx, hb, hml, hown, hts⟩ hmet2 (cwV 3 hts0 gl_X11_can rfl rfl rfl (by decide +kernel) ⟨Nat.le_of_ble_eq_true rfl, Nat.le_of_ble_eq_true rfl⟩) (xPreVA hN hK hP hD hfs2 rfl rfl) rfl rfl hl.1 rfl (lv_room (Nat.le_of_ble_eq_true rfl)) dL_law_957 ⟨show cl + 0 + 0 ≤ 600000 by omega, show sl + ms + 0 ≤ 7302250 by omega⟩) (fun r_2 wm H locs hM hP hD hS => ?_)
  have hP := P_swap hP
  have hD := D_swap hD
  refine lv_pop hx hb dL_law_960 rfl ?_
  refine lv_goto (tgt := 1056) hx hb dL_law_961 (by decide) ?_
  refine lv_iinc (v := nI (i + 6)) (lv' := [(3, .int (nI (i + 6))), (0, .ref b), (1, .ref o), (2, .ref mo)]) hx hb dL_law_1056 hl (k := 3) rfl (nI_add i 6) (by decide) rfl (fun ls hl => ?_)
  refine lv_goto (tgt := 18) hx hb dL_law_1059 (by decide) ?_
  exact kk _ _ _ _ _ ⟨i + 6, wc, wm, _, ph2, rfl, hC, hM, hP, hD, hS, lv_sub hl [1, 2, 3, 0] rfl, by omega, by omega, by omega⟩

set_option maxHeartbeats 4000000 in
set_option maxRecDepth 100000 in
theorem lc_seed {p : Program} {l : Launch} {e : Env} {s : State} {m : MethodId} {below : List Frame} {meth : Method} {c : Code} {b L : Nat} {xs : Nat → Int32} {D : va_G} {cB cI cJ cS cZ cO : ClassId} {A : Nat → Prop} {adK adV : Nat → Nat} {o mo i ph cl sl : Nat} {tm : Int32} {wc wm : va_W} {H : Heap} {locs : List Jvm.Loc} {ls : Array Slot} (C0 : lw_At p s m meth c b L xs) (hL : L ≤ 3072) (hi6 : i + 6 ≤ L) (hK : va_K D vwCl (tyL cB cI cJ cS cZ cO) s) (hN : nwA s) (hE : strE adK adV A s s.heap) (hR : strR adK s) (hA : ∀ q : Nat, s.heap.size ≤ q → A q) (hAf : ∀ q : Nat, A q → s.heap.size ≤ q) (hC : okC cB cI cJ cS cZ cO o tm ph wc) (hM : okM cB cI cJ cS cZ cO mo tm wm) (hP : va_P D vwCl (wc ++ wm) H) (hD : va_D A (wc ++ wm)) (hS : va_S A s.heap H locs) (hl : lv_has ls 4 [(0, .ref b), (1, .ref o), (2, .ref mo), (3, .int (nI i))]) (hcl : cl ≤ 1000 + i) (hsl : sl ≤ 1000000 + 2 * ph) (kk : ∀ (cl2 sl2 : Nat) (H2 : Heap) (locs2 : List Jvm.Loc) (ls2 : Array Slot), LI cB cI cJ cS cZ cO D s A b o mo L (L - (i + 6)) cl2 sl2 H2 locs2 ls2 → W p l e room_1 s m #[Value.ref b] below meth c H2 locs2 cl2 sl2 (lw_Z below #[Value.ref b] s) (F0 m 18 ls2 [])) : W p l e room_1 s m #[Value.ref b] below meth c H locs cl sl (lw_Z below #[Value.ref b] s) (F0 m 964 ls []) := by
  obtain ⟨hx, hb, hr, hml, hown, hts0, hX, hbl, hlocks, hgv⟩ := id C0
  have hts := fun w h => hts0 w (wsL_law_in w h)
  have hbA : ¬ A b := fun h => absurd (hAf b h) (Nat.not_le.mpr hbl)
  refine lv_aload_n hx hb dL_law_964 rfl (lv_at hl 1 rfl) ?_
  refine lv_aload_n hx hb dL_law_965 rfl (lv_at hl 0 rfl) ?_
  refine lv_iload_n hx hb dL_law_966 rfl (lv_at hl 3 rfl) ?_
  refine lv_iconst (v := 1) hx hb dL_law_967 (by decide) ?_
  refine lv_iadd hx hb dL_law_968 ?_
  refine xb_top (y := nI (i + 1)) (nI_add i 1) ?_
  refine va_sld hx hb hX hbl hbA hS (vp_in_nI (by omega) (by omega)) dL_law_969 ?_
  refine xb_top (y := xs (i + 1)) (by rw [nI_clamp (by omega)]) ?_
  obtain ⟨⟨fs, hfs⟩, hph⟩ := okC_o hC
  obtain ⟨ms, hml7, hmet⟩ := p_X10_seed l D cB cI cJ cS cZ cO H.size o tm ph wc (xs (i + 1)) hC
  refine xAi hP hD hS hA (va_runV (As := [.int (xs (i + 1))]) (rest := []) ⟨hx, hb, hml, hown, hts⟩ hmet (cwV 1 hts0 gl_X10_seed rfl rfl rfl (by decide +kernel) ⟨Nat.le_of_ble_eq_true rfl, Nat.le_of_ble_eq_true rfl⟩) (xPreVA hN hK hP hD hfs rfl rfl) rfl rfl hl.1 rfl (lv_room (Nat.le_of_ble_eq_true rfl)) dL_law_970 ⟨show cl + 0 ≤ 600000 by omega, show sl + ms ≤ 7302250 by omega⟩) (fun r_1 wc H locs hw hP hD hS => ?_)
  obtain ⟨ph2, hC, hms⟩ := hw
  refine lv_pop hx hb dL_law_973 rfl ?_
  refine lv_aload_n hx hb dL_law_974 rfl (lv_at hl 2 rfl) ?_
  refine lv_aload_n hx hb dL_law_975 rfl (lv_at hl 0 rfl) ?_
  refine lv_iload_n hx hb dL_law_976 rfl (lv_at hl 3 rfl) ?_
  refine lv_iconst (v := 1) hx hb dL_law_977 (by decide) ?_
  refine lv_iadd hx hb dL_law_978 ?_
  refine xb_top (y := nI (i + 1)) (nI_add i 1) ?_
  refine va_sld hx hb hX hbl hbA hS (vp_in_nI (by omega) (by omega)) dL_law_979 ?_
  refine xb_top (y := xs (i + 1)) (by rw [nI_clamp (by omega)]) ?_
  obtain ⟨fs2, hfs2⟩ := okM_o hM
  have hP := P_swap hP
  have hD := D_swap hD
  have hmet2 := p_X11_seed l D cB cI cJ cS cZ cO H.size mo tm wm (xs (i + 1)) hM
  refine xAi hP hD hS hA (va_runV (As := [.int (xs (i + 1))]) (rest := []) ⟨hx, hb, hml, hown, hts⟩ hmet2 (cwV 1 hts0 gl_X11_seed rfl rfl rfl (by decide +kernel) ⟨Nat.le_of_ble_eq_true rfl, Nat.le_of_ble_eq_true rfl⟩) (xPreVA hN hK hP hD hfs2 rfl rfl) rfl rfl hl.1 rfl (lv_room (Nat.le_of_ble_eq_true rfl)) dL_law_980 ⟨show cl + 0 + 0 ≤ 600000 by omega, show sl + ms + 0 ≤ 7302250 by omega⟩) (fun r_2 wm H locs hM hP hD hS => ?_)
  have hP := P_swap hP
  have hD := D_swap hD
  refine lv_pop hx hb dL_law_983 rfl ?_
  refine lv_goto (tgt := 1056) hx hb dL_law_984 (by decide) ?_
  refine lv_iinc (v := nI (i + 6)) (lv' := [(3, .int (nI (i + 6))), (0, .ref b), (1, .ref o), (2, .ref mo)]) hx hb dL_law_1056 hl (k := 3) rfl (nI_add i 6) (by decide) rfl (fun ls hl => ?_)
  refine lv_goto (tgt := 18) hx hb dL_law_1059 (by decide) ?_
  exact kk _ _ _ _ _ ⟨i + 6, wc, wm, _, ph2, rfl, hC, hM, hP, hD, hS, lv_sub hl [1, 2, 3, 0] rfl, by omega, by omega, by omega⟩

set_option maxHeartbeats 4000000 in
set_option maxRecDepth 100000 in
theorem lc_image {p : Program} {l : Launch} {e : Env} {s : State} {m : MethodId} {below : List Frame} {meth : Method} {c : Code} {b L : Nat} {xs : Nat → Int32} {D : va_G} {cB cI cJ cS cZ cO : ClassId} {A : Nat → Prop} {adK adV : Nat → Nat} {o mo i ph cl sl : Nat} {tm : Int32} {wc wm : va_W} {H : Heap} {locs : List Jvm.Loc} {ls : Array Slot} (C0 : lw_At p s m meth c b L xs) (hL : L ≤ 3072) (hi6 : i + 6 ≤ L) (hK : va_K D vwCl (tyL cB cI cJ cS cZ cO) s) (hN : nwA s) (hE : strE adK adV A s s.heap) (hR : strR adK s) (hA : ∀ q : Nat, s.heap.size ≤ q → A q) (hAf : ∀ q : Nat, A q → s.heap.size ≤ q) (hC : okC cB cI cJ cS cZ cO o tm ph wc) (hM : okM cB cI cJ cS cZ cO mo tm wm) (hP : va_P D vwCl (wc ++ wm) H) (hD : va_D A (wc ++ wm)) (hS : va_S A s.heap H locs) (hl : lv_has ls 4 [(0, .ref b), (1, .ref o), (2, .ref mo), (3, .int (nI i))]) (hcl : cl ≤ 1000 + i) (hsl : sl ≤ 1000000 + 2 * ph) (kk : ∀ (cl2 sl2 : Nat) (H2 : Heap) (locs2 : List Jvm.Loc) (ls2 : Array Slot), LI cB cI cJ cS cZ cO D s A b o mo L (L - (i + 6)) cl2 sl2 H2 locs2 ls2 → W p l e room_1 s m #[Value.ref b] below meth c H2 locs2 cl2 sl2 (lw_Z below #[Value.ref b] s) (F0 m 18 ls2 [])) : W p l e room_1 s m #[Value.ref b] below meth c H locs cl sl (lw_Z below #[Value.ref b] s) (F0 m 987 ls []) := by
  obtain ⟨hx, hb, hr, hml, hown, hts0, hX, hbl, hlocks, hgv⟩ := id C0
  have hts := fun w h => hts0 w (wsL_law_in w h)
  have hbA : ¬ A b := fun h => absurd (hAf b h) (Nat.not_le.mpr hbl)
  refine lv_aload_n hx hb dL_law_987 rfl (lv_at hl 1 rfl) ?_
  refine lv_aload_n hx hb dL_law_988 rfl (lv_at hl 0 rfl) ?_
  refine lv_iload_n hx hb dL_law_989 rfl (lv_at hl 3 rfl) ?_
  refine lv_iconst (v := 1) hx hb dL_law_990 (by decide) ?_
  refine lv_iadd hx hb dL_law_991 ?_
  refine xb_top (y := nI (i + 1)) (nI_add i 1) ?_
  refine va_sld hx hb hX hbl hbA hS (vp_in_nI (by omega) (by omega)) dL_law_992 ?_
  refine xb_top (y := xs (i + 1)) (by rw [nI_clamp (by omega)]) ?_
  obtain ⟨⟨fs, hfs⟩, hph⟩ := okC_o hC
  obtain ⟨ms, hml7, hmet⟩ := p_X10_image l D cB cI cJ cS cZ cO H.size o tm ph wc (xs (i + 1)) hC
  refine xAi hP hD hS hA (va_runV (As := [.int (xs (i + 1))]) (rest := []) ⟨hx, hb, hml, hown, hts⟩ hmet (cwV 1 hts0 gl_X10_image rfl rfl rfl (by decide +kernel) ⟨Nat.le_of_ble_eq_true rfl, Nat.le_of_ble_eq_true rfl⟩) (xPreVA hN hK hP hD hfs rfl rfl) rfl rfl hl.1 rfl (lv_room (Nat.le_of_ble_eq_true rfl)) dL_law_993 ⟨show cl + 0 ≤ 600000 by omega, show sl + ms ≤ 7302250 by omega⟩) (fun r_1 wc H locs hw hP hD hS => ?_)
  obtain ⟨ph2, hC, hms⟩ := hw
  refine lv_pop hx hb dL_law_996 rfl ?_
  refine lv_aload_n hx hb dL_law_997 rfl (lv_at hl 2 rfl) ?_
  refine lv_aload_n hx hb dL_law_998 rfl (lv_at hl 0 rfl) ?_
  refine lv_iload_n hx hb dL_law_999 rfl (lv_at hl 3 rfl) ?_
  refine lv_iconst (v := 1) hx hb dL_law_1000 (by decide) ?_
  refine lv_iadd hx hb dL_law_1001 ?_
  refine xb_top (y := nI (i + 1)) (nI_add i 1) ?_
  refine va_sld hx hb hX hbl hbA hS (vp_in_nI (by omega) (by omega)) dL_law_1002 ?_
  refine xb_top (y := xs (i + 1)) (by rw [nI_clamp (by omega)]) ?_
  obtain ⟨fs2, hfs2⟩ := okM_o hM
  have hP := P_swap hP
  have hD := D_swap hD
  have hmet2 := p_X11_image l D cB cI cJ cS cZ cO H.size mo tm wm (xs (i + 1)) hM
  refine xAi hP hD hS hA (va_runV (As := [.int (xs (i + 1))]) (rest := []) ⟨hx, hb, hml, hown, hts⟩ hmet2 (cwV 1 hts0 gl_X11_image rfl rfl rfl (by decide +kernel) ⟨Nat.le_of_ble_eq_true rfl, Nat.le_of_ble_eq_true rfl⟩) (xPreVA hN hK hP hD hfs2 rfl rfl) rfl rfl hl.1 rfl (lv_room (Nat.le_of_ble_eq_true rfl)) dL_law_1003 ⟨show cl + 0 + 0 ≤ 600000 by omega, show sl + ms + 0 ≤ 7302250 by omega⟩) (fun r_2 wm H locs hM hP hD hS => ?_)
  have hP := P_swap hP
  have hD := D_swap hD
  refine lv_pop hx hb dL_law_1006 rfl ?_
  refine lv_goto (tgt := 1056) hx hb dL_law_1007 (by decide) ?_
  refine lv_iinc (v := nI (i + 6)) (lv' := [(3, .int (nI (i + 6))), (0, .ref b), (1, .ref o), (2, .ref mo)]) hx hb dL_law_1056 hl (k := 3) rfl (nI_add i 6) (by decide) rfl (fun ls hl => ?_)
  refine lv_goto (tgt := 18) hx hb dL_law_1059 (by decide) ?_
  exact kk _ _ _ _ _ ⟨i + 6, wc, wm, _, ph2, rfl, hC, hM, hP, hD, hS, lv_sub hl [1, 2, 3, 0] rfl, by omega, by omega, by omega⟩

set_option maxHeartbeats 4000000 in
set_option maxRecDepth 100000 in
theorem lc_back {p : Program} {l : Launch} {e : Env} {s : State} {m : MethodId} {below : List Frame} {meth : Method} {c : Code} {b L : Nat} {xs : Nat → Int32} {D : va_G} {cB cI cJ cS cZ cO : ClassId} {A : Nat → Prop} {adK adV : Nat → Nat} {o mo i ph cl sl : Nat} {tm : Int32} {wc wm : va_W} {H : Heap} {locs : List Jvm.Loc} {ls : Array Slot} (C0 : lw_At p s m meth c b L xs) (hL : L ≤ 3072) (hi6 : i + 6 ≤ L) (hK : va_K D vwCl (tyL cB cI cJ cS cZ cO) s) (hN : nwA s) (hE : strE adK adV A s s.heap) (hR : strR adK s) (hA : ∀ q : Nat, s.heap.size ≤ q → A q) (hAf : ∀ q : Nat, A q → s.heap.size ≤ q) (hC : okC cB cI cJ cS cZ cO o tm ph wc) (hM : okM cB cI cJ cS cZ cO mo tm wm) (hP : va_P D vwCl (wc ++ wm) H) (hD : va_D A (wc ++ wm)) (hS : va_S A s.heap H locs) (hl : lv_has ls 4 [(0, .ref b), (1, .ref o), (2, .ref mo), (3, .int (nI i))]) (hcl : cl ≤ 1000 + i) (hsl : sl ≤ 1000000 + 2 * ph) (kk : ∀ (cl2 sl2 : Nat) (H2 : Heap) (locs2 : List Jvm.Loc) (ls2 : Array Slot), LI cB cI cJ cS cZ cO D s A b o mo L (L - (i + 6)) cl2 sl2 H2 locs2 ls2 → W p l e room_1 s m #[Value.ref b] below meth c H2 locs2 cl2 sl2 (lw_Z below #[Value.ref b] s) (F0 m 18 ls2 [])) : W p l e room_1 s m #[Value.ref b] below meth c H locs cl sl (lw_Z below #[Value.ref b] s) (F0 m 1010 ls []) := by
  obtain ⟨hx, hb, hr, hml, hown, hts0, hX, hbl, hlocks, hgv⟩ := id C0
  have hts := fun w h => hts0 w (wsL_law_in w h)
  have hbA : ¬ A b := fun h => absurd (hAf b h) (Nat.not_le.mpr hbl)
  refine lv_aload_n hx hb dL_law_1010 rfl (lv_at hl 1 rfl) ?_
  refine lv_aload_n hx hb dL_law_1011 rfl (lv_at hl 0 rfl) ?_
  refine lv_iload_n hx hb dL_law_1012 rfl (lv_at hl 3 rfl) ?_
  refine lv_iconst (v := 1) hx hb dL_law_1013 (by decide) ?_
  refine lv_iadd hx hb dL_law_1014 ?_
  refine xb_top (y := nI (i + 1)) (nI_add i 1) ?_
  refine va_sld hx hb hX hbl hbA hS (vp_in_nI (by omega) (by omega)) dL_law_1015 ?_
  refine xb_top (y := xs (i + 1)) (by rw [nI_clamp (by omega)]) ?_
  obtain ⟨⟨fs, hfs⟩, hph⟩ := okC_o hC
  obtain ⟨ms, hml7, hmet⟩ := p_X10_back l D cB cI cJ cS cZ cO H.size o tm ph wc (xs (i + 1)) hC
  refine xAi hP hD hS hA (va_runV (As := [.int (xs (i + 1))]) (rest := []) ⟨hx, hb, hml, hown, hts⟩ hmet (cwV 1 hts0 gl_X10_back rfl rfl rfl (by decide +kernel) ⟨Nat.le_of_ble_eq_true rfl, Nat.le_of_ble_eq_true rfl⟩) (xPreVA hN hK hP hD hfs rfl rfl) rfl rfl hl.1 rfl (lv_room (Nat.le_of_ble_eq_true rfl)) dL_law_1016 ⟨show cl + 0 ≤ 600000 by omega, show sl + ms ≤ 7302250 by omega⟩) (fun r_1 wc H locs hw hP hD hS => ?_)
  obtain ⟨ph2, hC, hms⟩ := hw
  refine lv_pop hx hb dL_law_1019 rfl ?_
  refine lv_aload_n hx hb dL_law_1020 rfl (lv_at hl 2 rfl) ?_
  refine lv_aload_n hx hb dL_law_1021 rfl (lv_at hl 0 rfl) ?_
  refine lv_iload_n hx hb dL_law_1022 rfl (lv_at hl 3 rfl) ?_
  refine lv_iconst (v := 1) hx hb dL_law_1023 (by decide) ?_
  refine lv_iadd hx hb dL_law_1024 ?_
  refine xb_top (y := nI (i + 1)) (nI_add i 1) ?_
  refine va_sld hx hb hX hbl hbA hS (vp_in_nI (by omega) (by omega)) dL_law_1025 ?_
  refine xb_top (y := xs (i + 1)) (by rw [nI_clamp (by omega)]) ?_
  obtain ⟨fs2, hfs2⟩ := okM_o hM
  have hP := P_swap hP
  have hD := D_swap hD
  have hmet2 := p_X11_back l D cB cI cJ cS cZ cO H.size mo tm wm (xs (i + 1)) hM
  refine xAi hP hD hS hA (va_runV (As := [.int (xs (i + 1))]) (rest := []) ⟨hx, hb, hml, hown, hts⟩ hmet2 (cwV 1 hts0 gl_X11_back rfl rfl rfl (by decide +kernel) ⟨Nat.le_of_ble_eq_true rfl, Nat.le_of_ble_eq_true rfl⟩) (xPreVA hN hK hP hD hfs2 rfl rfl) rfl rfl hl.1 rfl (lv_room (Nat.le_of_ble_eq_true rfl)) dL_law_1026 ⟨show cl + 0 + 0 ≤ 600000 by omega, show sl + ms + 0 ≤ 7302250 by omega⟩) (fun r_2 wm H locs hM hP hD hS => ?_)
  have hP := P_swap hP
  have hD := D_swap hD
  refine lv_pop hx hb dL_law_1029 rfl ?_
  refine lv_goto (tgt := 1056) hx hb dL_law_1030 (by decide) ?_
  refine lv_iinc (v := nI (i + 6)) (lv' := [(3, .int (nI (i + 6))), (0, .ref b), (1, .ref o), (2, .ref mo)]) hx hb dL_law_1056 hl (k := 3) rfl (nI_add i 6) (by decide) rfl (fun ls hl => ?_)
  refine lv_goto (tgt := 18) hx hb dL_law_1059 (by decide) ?_
  exact kk _ _ _ _ _ ⟨i + 6, wc, wm, _, ph2, rfl, hC, hM, hP, hD, hS, lv_sub hl [1, 2, 3, 0] rfl, by omega, by omega, by omega⟩

set_option maxHeartbeats 4000000 in
set_option maxRecDepth 100000 in
theorem lc_about {p : Program} {l : Launch} {e : Env} {s : State} {m : MethodId} {below : List Frame} {meth : Method} {c : Code} {b L : Nat} {xs : Nat → Int32} {D : va_G} {cB cI cJ cS cZ cO : ClassId} {A : Nat → Prop} {adK adV : Nat → Nat} {o mo i ph cl sl : Nat} {tm : Int32} {wc wm : va_W} {H : Heap} {locs : List Jvm.Loc} {ls : Array Slot} (C0 : lw_At p s m meth c b L xs) (hL : L ≤ 3072) (hi6 : i + 6 ≤ L) (hK : va_K D vwCl (tyL cB cI cJ cS cZ cO) s) (hN : nwA s) (hE : strE adK adV A s s.heap) (hR : strR adK s) (hA : ∀ q : Nat, s.heap.size ≤ q → A q) (hAf : ∀ q : Nat, A q → s.heap.size ≤ q) (hC : okC cB cI cJ cS cZ cO o tm ph wc) (hM : okM cB cI cJ cS cZ cO mo tm wm) (hP : va_P D vwCl (wc ++ wm) H) (hD : va_D A (wc ++ wm)) (hS : va_S A s.heap H locs) (hl : lv_has ls 4 [(0, .ref b), (1, .ref o), (2, .ref mo), (3, .int (nI i))]) (hcl : cl ≤ 1000 + i) (hsl : sl ≤ 1000000 + 2 * ph) (kk : ∀ (cl2 sl2 : Nat) (H2 : Heap) (locs2 : List Jvm.Loc) (ls2 : Array Slot), LI cB cI cJ cS cZ cO D s A b o mo L (L - (i + 6)) cl2 sl2 H2 locs2 ls2 → W p l e room_1 s m #[Value.ref b] below meth c H2 locs2 cl2 sl2 (lw_Z below #[Value.ref b] s) (F0 m 18 ls2 [])) : W p l e room_1 s m #[Value.ref b] below meth c H locs cl sl (lw_Z below #[Value.ref b] s) (F0 m 1033 ls []) := by
  obtain ⟨hx, hb, hr, hml, hown, hts0, hX, hbl, hlocks, hgv⟩ := id C0
  have hts := fun w h => hts0 w (wsL_law_in w h)
  have hbA : ¬ A b := fun h => absurd (hAf b h) (Nat.not_le.mpr hbl)
  refine lv_aload_n hx hb dL_law_1033 rfl (lv_at hl 1 rfl) ?_
  refine lv_aload_n hx hb dL_law_1034 rfl (lv_at hl 0 rfl) ?_
  refine lv_iload_n hx hb dL_law_1035 rfl (lv_at hl 3 rfl) ?_
  refine lv_iconst (v := 1) hx hb dL_law_1036 (by decide) ?_
  refine lv_iadd hx hb dL_law_1037 ?_
  refine xb_top (y := nI (i + 1)) (nI_add i 1) ?_
  refine va_sld hx hb hX hbl hbA hS (vp_in_nI (by omega) (by omega)) dL_law_1038 ?_
  refine xb_top (y := xs (i + 1)) (by rw [nI_clamp (by omega)]) ?_
  obtain ⟨⟨fs, hfs⟩, hph⟩ := okC_o hC
  obtain ⟨ms, hml7, hmet⟩ := p_X10_about l D cB cI cJ cS cZ cO H.size o tm ph wc (xs (i + 1)) hC
  refine xAi hP hD hS hA (va_runV (As := [.int (xs (i + 1))]) (rest := []) ⟨hx, hb, hml, hown, hts⟩ hmet (cwV 1 hts0 gl_X10_about rfl rfl rfl (by decide +kernel) ⟨Nat.le_of_ble_eq_true rfl, Nat.le_of_ble_eq_true rfl⟩) (xPreVA hN hK hP hD hfs rfl rfl) rfl rfl hl.1 rfl (lv_room (Nat.le_of_ble_eq_true rfl)) dL_law_1039 ⟨show cl + 0 ≤ 600000 by omega, show sl + ms ≤ 7302250 by omega⟩) (fun r_1 wc H locs hw hP hD hS => ?_)
  obtain ⟨ph2, hC, hms⟩ := hw
  refine lv_pop hx hb dL_law_1042 rfl ?_
  refine lv_aload_n hx hb dL_law_1043 rfl (lv_at hl 2 rfl) ?_
  refine lv_aload_n hx hb dL_law_1044 rfl (lv_at hl 0 rfl) ?_
  refine lv_iload_n hx hb dL_law_1045 rfl (lv_at hl 3 rfl) ?_
  refine lv_iconst (v := 1) hx hb dL_law_1046 (by decide) ?_
  refine lv_iadd hx hb dL_law_1047 ?_
  refine xb_top (y := nI (i + 1)) (nI_add i 1) ?_
  refine va_sld hx hb hX hbl hbA hS (vp_in_nI (by omega) (by omega)) dL_law_1048 ?_
  refine xb_top (y := xs (i + 1)) (by rw [nI_clamp (by omega)]) ?_
  obtain ⟨fs2, hfs2⟩ := okM_o hM
  have hP := P_swap hP
  have hD := D_swap hD
  have hmet2 := p_X11_about l D cB cI cJ cS cZ cO H.size mo tm wm (xs (i + 1)) hM
  refine xAi hP hD hS hA (va_runV (As := [.int (xs (i + 1))]) (rest := []) ⟨hx, hb, hml, hown, hts⟩ hmet2 (cwV 1 hts0 gl_X11_about rfl rfl rfl (by decide +kernel) ⟨Nat.le_of_ble_eq_true rfl, Nat.le_of_ble_eq_true rfl⟩) (xPreVA hN hK hP hD hfs2 rfl rfl) rfl rfl hl.1 rfl (lv_room (Nat.le_of_ble_eq_true rfl)) dL_law_1049 ⟨show cl + 0 + 0 ≤ 600000 by omega, show sl + ms + 0 ≤ 7302250 by omega⟩) (fun r_2 wm H locs hM hP hD hS => ?_)
  have hP := P_swap hP
  have hD := D_swap hD
  refine lv_pop hx hb dL_law_1052 rfl ?_
  refine lv_goto (tgt := 1056) hx hb dL_law_1053 (by decide) ?_
  refine lv_iinc (v := nI (i + 6)) (lv' := [(3, .int (nI (i + 6))), (0, .ref b), (1, .ref o), (2, .ref mo)]) hx hb dL_law_1056 hl (k := 3) rfl (nI_add i 6) (by decide) rfl (fun ls hl => ?_)
  refine lv_goto (tgt := 18) hx hb dL_law_1059 (by decide) ?_
  exact kk _ _ _ _ _ ⟨i + 6, wc, wm, _, ph2, rfl, hC, hM, hP, hD, hS, lv_sub hl [1, 2, 3, 0] rfl, by omega, by omega, by omega⟩
