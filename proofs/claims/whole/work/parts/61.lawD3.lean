/-! DECODE ROWS of the law, by program. -/
theorem dd_L_law_808 : decode L_law.2.1 808 = .ok (.aload_n 0, 1) := by decide +kernel
theorem dd_L_law_809 : decode L_law.2.1 809 = .ok (.iload_n 3, 1) := by decide +kernel
theorem dd_L_law_810 : decode L_law.2.1 810 = .ok (.iconst 1, 1) := by decide +kernel
theorem dd_L_law_811 : decode L_law.2.1 811 = .ok (.iadd, 1) := by decide +kernel
theorem dd_L_law_812 : decode L_law.2.1 812 = .ok (.iaload, 1) := by decide +kernel
theorem dd_L_law_813 : decode L_law.2.1 813 = .ok (.aload_n 0, 1) := by decide +kernel
theorem dd_L_law_814 : decode L_law.2.1 814 = .ok (.iload_n 3, 1) := by decide +kernel
theorem dd_L_law_815 : decode L_law.2.1 815 = .ok (.iconst 2, 1) := by decide +kernel
theorem dd_L_law_816 : decode L_law.2.1 816 = .ok (.iadd, 1) := by decide +kernel
theorem dd_L_law_817 : decode L_law.2.1 817 = .ok (.iaload, 1) := by decide +kernel
theorem dd_L_law_818 : decode L_law.2.1 818 = .ok (.invokevirtual 112, 3) := by decide +kernel
theorem dd_L_law_821 : decode L_law.2.1 821 = .ok (.if_icmp .eq 170, 3) := by decide +kernel
theorem dd_L_law_826 : decode L_law.2.1 826 = .ok (.aload_n 1, 1) := by decide +kernel
theorem dd_L_law_827 : decode L_law.2.1 827 = .ok (.aload_n 0, 1) := by decide +kernel
theorem dd_L_law_828 : decode L_law.2.1 828 = .ok (.iload_n 3, 1) := by decide +kernel
theorem dd_L_law_829 : decode L_law.2.1 829 = .ok (.iconst 1, 1) := by decide +kernel
theorem dd_L_law_830 : decode L_law.2.1 830 = .ok (.iadd, 1) := by decide +kernel
theorem dd_L_law_831 : decode L_law.2.1 831 = .ok (.iaload, 1) := by decide +kernel
theorem dd_L_law_832 : decode L_law.2.1 832 = .ok (.aload_n 0, 1) := by decide +kernel
theorem dd_L_law_833 : decode L_law.2.1 833 = .ok (.iload_n 3, 1) := by decide +kernel
theorem dd_L_law_834 : decode L_law.2.1 834 = .ok (.iconst 2, 1) := by decide +kernel
theorem dd_L_law_835 : decode L_law.2.1 835 = .ok (.iadd, 1) := by decide +kernel
theorem dd_L_law_836 : decode L_law.2.1 836 = .ok (.iaload, 1) := by decide +kernel
theorem dd_L_law_837 : decode L_law.2.1 837 = .ok (.aload_n 0, 1) := by decide +kernel
theorem dd_L_law_838 : decode L_law.2.1 838 = .ok (.iload_n 3, 1) := by decide +kernel
theorem dd_L_law_839 : decode L_law.2.1 839 = .ok (.iconst 3, 1) := by decide +kernel
theorem dd_L_law_840 : decode L_law.2.1 840 = .ok (.iadd, 1) := by decide +kernel
theorem dd_L_law_841 : decode L_law.2.1 841 = .ok (.iaload, 1) := by decide +kernel
theorem dd_L_law_842 : decode L_law.2.1 842 = .ok (.invokevirtual 113, 3) := by decide +kernel
theorem dd_L_law_845 : decode L_law.2.1 845 = .ok (.aload_n 2, 1) := by decide +kernel
theorem dd_L_law_846 : decode L_law.2.1 846 = .ok (.aload_n 0, 1) := by decide +kernel
theorem dd_L_law_847 : decode L_law.2.1 847 = .ok (.iload_n 3, 1) := by decide +kernel
theorem dd_L_law_848 : decode L_law.2.1 848 = .ok (.iconst 1, 1) := by decide +kernel
theorem dd_L_law_849 : decode L_law.2.1 849 = .ok (.iadd, 1) := by decide +kernel
theorem dd_L_law_850 : decode L_law.2.1 850 = .ok (.iaload, 1) := by decide +kernel
theorem dd_L_law_851 : decode L_law.2.1 851 = .ok (.aload_n 0, 1) := by decide +kernel
theorem dd_L_law_852 : decode L_law.2.1 852 = .ok (.iload_n 3, 1) := by decide +kernel
theorem dd_L_law_853 : decode L_law.2.1 853 = .ok (.iconst 2, 1) := by decide +kernel
theorem dd_L_law_854 : decode L_law.2.1 854 = .ok (.iadd, 1) := by decide +kernel
theorem dd_L_law_855 : decode L_law.2.1 855 = .ok (.iaload, 1) := by decide +kernel
theorem dd_L_law_856 : decode L_law.2.1 856 = .ok (.aload_n 0, 1) := by decide +kernel
theorem dd_L_law_857 : decode L_law.2.1 857 = .ok (.iload_n 3, 1) := by decide +kernel
theorem dd_L_law_858 : decode L_law.2.1 858 = .ok (.iconst 3, 1) := by decide +kernel
theorem dd_L_law_859 : decode L_law.2.1 859 = .ok (.iadd, 1) := by decide +kernel
theorem dd_L_law_860 : decode L_law.2.1 860 = .ok (.iaload, 1) := by decide +kernel
theorem dd_L_law_861 : decode L_law.2.1 861 = .ok (.invokevirtual 116, 3) := by decide +kernel
theorem dd_L_law_864 : decode L_law.2.1 864 = .ok (.if_icmp .eq 127, 3) := by decide +kernel
theorem dd_L_law_869 : decode L_law.2.1 869 = .ok (.aload_n 1, 1) := by decide +kernel
theorem dd_L_law_870 : decode L_law.2.1 870 = .ok (.aload_n 0, 1) := by decide +kernel
theorem dd_L_law_871 : decode L_law.2.1 871 = .ok (.iload_n 3, 1) := by decide +kernel
theorem dd_L_law_872 : decode L_law.2.1 872 = .ok (.iconst 1, 1) := by decide +kernel
theorem dd_L_law_873 : decode L_law.2.1 873 = .ok (.iadd, 1) := by decide +kernel
theorem dd_L_law_874 : decode L_law.2.1 874 = .ok (.iaload, 1) := by decide +kernel
theorem dd_L_law_875 : decode L_law.2.1 875 = .ok (.aload_n 0, 1) := by decide +kernel
theorem dd_L_law_876 : decode L_law.2.1 876 = .ok (.iload_n 3, 1) := by decide +kernel
theorem dd_L_law_877 : decode L_law.2.1 877 = .ok (.iconst 2, 1) := by decide +kernel
theorem dd_L_law_878 : decode L_law.2.1 878 = .ok (.iadd, 1) := by decide +kernel
theorem dd_L_law_879 : decode L_law.2.1 879 = .ok (.iaload, 1) := by decide +kernel
theorem dd_L_law_880 : decode L_law.2.1 880 = .ok (.invokevirtual 117, 3) := by decide +kernel
theorem dd_L_law_883 : decode L_law.2.1 883 = .ok (.aload_n 2, 1) := by decide +kernel
theorem dd_L_law_884 : decode L_law.2.1 884 = .ok (.aload_n 0, 1) := by decide +kernel
theorem dd_L_law_885 : decode L_law.2.1 885 = .ok (.iload_n 3, 1) := by decide +kernel
theorem dd_L_law_886 : decode L_law.2.1 886 = .ok (.iconst 1, 1) := by decide +kernel
theorem dd_L_law_887 : decode L_law.2.1 887 = .ok (.iadd, 1) := by decide +kernel
theorem dd_L_law_888 : decode L_law.2.1 888 = .ok (.iaload, 1) := by decide +kernel
theorem dd_L_law_889 : decode L_law.2.1 889 = .ok (.aload_n 0, 1) := by decide +kernel
theorem dd_L_law_890 : decode L_law.2.1 890 = .ok (.iload_n 3, 1) := by decide +kernel
theorem dd_L_law_891 : decode L_law.2.1 891 = .ok (.iconst 2, 1) := by decide +kernel
theorem dd_L_law_892 : decode L_law.2.1 892 = .ok (.iadd, 1) := by decide +kernel
theorem dd_L_law_893 : decode L_law.2.1 893 = .ok (.iaload, 1) := by decide +kernel
theorem dd_L_law_894 : decode L_law.2.1 894 = .ok (.invokevirtual 120, 3) := by decide +kernel
theorem dd_L_law_897 : decode L_law.2.1 897 = .ok (.if_icmp .eq 94, 3) := by decide +kernel
theorem dd_L_law_902 : decode L_law.2.1 902 = .ok (.aload_n 1, 1) := by decide +kernel
theorem dd_L_law_903 : decode L_law.2.1 903 = .ok (.aload_n 0, 1) := by decide +kernel
theorem dd_L_law_904 : decode L_law.2.1 904 = .ok (.iload_n 3, 1) := by decide +kernel
theorem dd_L_law_905 : decode L_law.2.1 905 = .ok (.iconst 1, 1) := by decide +kernel
theorem dd_L_law_906 : decode L_law.2.1 906 = .ok (.iadd, 1) := by decide +kernel
theorem dd_L_law_907 : decode L_law.2.1 907 = .ok (.iaload, 1) := by decide +kernel
theorem dd_L_law_908 : decode L_law.2.1 908 = .ok (.aload_n 0, 1) := by decide +kernel
theorem dd_L_law_909 : decode L_law.2.1 909 = .ok (.iload_n 3, 1) := by decide +kernel
theorem dd_L_law_910 : decode L_law.2.1 910 = .ok (.iconst 2, 1) := by decide +kernel
theorem dd_L_law_911 : decode L_law.2.1 911 = .ok (.iadd, 1) := by decide +kernel
theorem dd_L_law_912 : decode L_law.2.1 912 = .ok (.iaload, 1) := by decide +kernel
theorem dd_L_law_913 : decode L_law.2.1 913 = .ok (.aload_n 0, 1) := by decide +kernel
theorem dd_L_law_914 : decode L_law.2.1 914 = .ok (.iload_n 3, 1) := by decide +kernel
theorem dd_L_law_915 : decode L_law.2.1 915 = .ok (.iconst 3, 1) := by decide +kernel
theorem dd_L_law_916 : decode L_law.2.1 916 = .ok (.iadd, 1) := by decide +kernel
theorem dd_L_law_917 : decode L_law.2.1 917 = .ok (.iaload, 1) := by decide +kernel
theorem dd_L_law_918 : decode L_law.2.1 918 = .ok (.invokevirtual 121, 3) := by decide +kernel
theorem dd_L_law_921 : decode L_law.2.1 921 = .ok (.aload_n 2, 1) := by decide +kernel
theorem dd_L_law_922 : decode L_law.2.1 922 = .ok (.aload_n 0, 1) := by decide +kernel
theorem dd_L_law_923 : decode L_law.2.1 923 = .ok (.iload_n 3, 1) := by decide +kernel
theorem dd_L_law_924 : decode L_law.2.1 924 = .ok (.iconst 1, 1) := by decide +kernel
theorem dd_L_law_925 : decode L_law.2.1 925 = .ok (.iadd, 1) := by decide +kernel
theorem dd_L_law_926 : decode L_law.2.1 926 = .ok (.iaload, 1) := by decide +kernel
theorem dd_L_law_927 : decode L_law.2.1 927 = .ok (.aload_n 0, 1) := by decide +kernel
theorem dd_L_law_928 : decode L_law.2.1 928 = .ok (.iload_n 3, 1) := by decide +kernel
theorem dd_L_law_929 : decode L_law.2.1 929 = .ok (.iconst 2, 1) := by decide +kernel
theorem dd_L_law_930 : decode L_law.2.1 930 = .ok (.iadd, 1) := by decide +kernel
theorem dd_L_law_931 : decode L_law.2.1 931 = .ok (.iaload, 1) := by decide +kernel
theorem dd_L_law_932 : decode L_law.2.1 932 = .ok (.aload_n 0, 1) := by decide +kernel
theorem dd_L_law_933 : decode L_law.2.1 933 = .ok (.iload_n 3, 1) := by decide +kernel
theorem dd_L_law_934 : decode L_law.2.1 934 = .ok (.iconst 3, 1) := by decide +kernel
theorem dd_L_law_935 : decode L_law.2.1 935 = .ok (.iadd, 1) := by decide +kernel
theorem dd_L_law_936 : decode L_law.2.1 936 = .ok (.iaload, 1) := by decide +kernel
theorem dd_L_law_937 : decode L_law.2.1 937 = .ok (.invokevirtual 124, 3) := by decide +kernel
theorem dd_L_law_940 : decode L_law.2.1 940 = .ok (.if_icmp .eq 51, 3) := by decide +kernel
theorem dd_L_law_945 : decode L_law.2.1 945 = .ok (.aload_n 1, 1) := by decide +kernel
theorem dd_L_law_946 : decode L_law.2.1 946 = .ok (.aload_n 0, 1) := by decide +kernel
theorem dd_L_law_947 : decode L_law.2.1 947 = .ok (.iload_n 3, 1) := by decide +kernel
theorem dd_L_law_948 : decode L_law.2.1 948 = .ok (.iconst 1, 1) := by decide +kernel
theorem dd_L_law_949 : decode L_law.2.1 949 = .ok (.iadd, 1) := by decide +kernel
theorem dd_L_law_950 : decode L_law.2.1 950 = .ok (.iaload, 1) := by decide +kernel
theorem dd_L_law_951 : decode L_law.2.1 951 = .ok (.invokevirtual 125, 3) := by decide +kernel
theorem dd_L_law_954 : decode L_law.2.1 954 = .ok (.aload_n 2, 1) := by decide +kernel
theorem dd_L_law_955 : decode L_law.2.1 955 = .ok (.aload_n 0, 1) := by decide +kernel
theorem dd_L_law_956 : decode L_law.2.1 956 = .ok (.iload_n 3, 1) := by decide +kernel
theorem dd_L_law_957 : decode L_law.2.1 957 = .ok (.iconst 1, 1) := by decide +kernel
theorem dd_L_law_958 : decode L_law.2.1 958 = .ok (.iadd, 1) := by decide +kernel
theorem dd_L_law_959 : decode L_law.2.1 959 = .ok (.iaload, 1) := by decide +kernel
theorem dd_L_law_960 : decode L_law.2.1 960 = .ok (.invokevirtual 128, 3) := by decide +kernel
theorem dd_L_law_963 : decode L_law.2.1 963 = .ok (.if_icmp .eq 28, 3) := by decide +kernel
theorem dd_L_law_968 : decode L_law.2.1 968 = .ok (.aload_n 1, 1) := by decide +kernel
theorem dd_L_law_969 : decode L_law.2.1 969 = .ok (.aload_n 0, 1) := by decide +kernel
theorem dd_L_law_970 : decode L_law.2.1 970 = .ok (.iload_n 3, 1) := by decide +kernel
theorem dd_L_law_971 : decode L_law.2.1 971 = .ok (.iconst 1, 1) := by decide +kernel
theorem dd_L_law_972 : decode L_law.2.1 972 = .ok (.iadd, 1) := by decide +kernel
theorem dd_L_law_973 : decode L_law.2.1 973 = .ok (.iaload, 1) := by decide +kernel
theorem dd_L_law_974 : decode L_law.2.1 974 = .ok (.invokevirtual 129, 3) := by decide +kernel
theorem dd_L_law_977 : decode L_law.2.1 977 = .ok (.aload_n 2, 1) := by decide +kernel
theorem dd_L_law_978 : decode L_law.2.1 978 = .ok (.aload_n 0, 1) := by decide +kernel
theorem dd_L_law_979 : decode L_law.2.1 979 = .ok (.iload_n 3, 1) := by decide +kernel
theorem dd_L_law_980 : decode L_law.2.1 980 = .ok (.iconst 1, 1) := by decide +kernel
theorem dd_L_law_981 : decode L_law.2.1 981 = .ok (.iadd, 1) := by decide +kernel
theorem dd_L_law_982 : decode L_law.2.1 982 = .ok (.iaload, 1) := by decide +kernel
theorem dd_L_law_983 : decode L_law.2.1 983 = .ok (.invokevirtual 132, 3) := by decide +kernel
theorem dd_L_law_986 : decode L_law.2.1 986 = .ok (.if_icmp .eq 5, 3) := by decide +kernel
theorem dd_L_law_991 : decode L_law.2.1 991 = .ok (.iinc 3 4, 3) := by decide +kernel
theorem dd_L_law_994 : decode L_law.2.1 994 = .ok (.goto (-976), 3) := by decide +kernel
theorem dd_L_law_997 : decode L_law.2.1 997 = .ok (.iconst 1, 1) := by decide +kernel
theorem dd_L_law_998 : decode L_law.2.1 998 = .ok (.ireturn, 1) := by decide +kernel
