theorem n_0 : Cond.initialized RL ∈ gT := gT_t 0 (by decide +kernel) rfl
theorem n_1139 : Cond.methodLink RL 112 yL_reads ∈ gT := gT_t 1139 (by decide +kernel) rfl
theorem n_1140 : Cond.static yL_reads ∈ gT := gT_t 1140 (by decide +kernel) rfl
theorem n_1141 : Cond.code yL_reads cL_reads 6 (some .int) ∈ gT := gT_t 1141 (by decide +kernel) rfl
theorem n_304 : Jvm.Cond.constant RL 7 868739541 ∈ gT := gT_t 304 (by decide +kernel) rfl
theorem n_305 : Jvm.Cond.constant RL 8 799127491 ∈ gT := gT_t 305 (by decide +kernel) rfl
theorem n_306 : Jvm.Cond.constant RL 9 2147483647 ∈ gT := gT_t 306 (by decide +kernel) rfl
theorem n_310 : Cond.methodLink RL 148 yL_calls ∈ gT := gT_t 310 (by decide +kernel) rfl
theorem n_311 : Cond.static yL_calls ∈ gT := gT_t 311 (by decide +kernel) rfl
theorem n_312 : Cond.code yL_calls cL_calls 13 (some .boolean) ∈ gT := gT_t 312 (by decide +kernel) rfl
theorem n_313 : Cond.methodLink RL 84 yX11_legOf ∈ gT := gT_t 313 (by decide +kernel) rfl
theorem n_314 : Cond.instanceMethod yX11_legOf ∈ gT := gT_t 314 (by decide +kernel) rfl
theorem n_315 : Cond.selects RX11 yX11_legOf yX11_legOf ∈ gT := gT_t 315 (by decide +kernel) rfl
theorem n_316 : Cond.code yX11_legOf cX11_legOf 3 (some .int) ∈ gT := gT_t 316 (by decide +kernel) rfl
theorem n_390 : Cond.methodLink RL 116 yL_asks ∈ gT := gT_t 390 (by decide +kernel) rfl
theorem n_391 : Cond.static yL_asks ∈ gT := gT_t 391 (by decide +kernel) rfl
theorem n_392 : Cond.codeWith yL_asks cL_asks 6 (some .int) (hdT [(2, 110, 37, 109), (3, 115, 39, 109)]) ∈ gT := gT_t 392 (by decide +kernel) rfl
theorem n_761 : Cond.methodLink RL 87 yX11_cellOf ∈ gT := gT_t 761 (by decide +kernel) rfl
theorem n_762 : Cond.instanceMethod yX11_cellOf ∈ gT := gT_t 762 (by decide +kernel) rfl
theorem n_763 : Cond.selects RX11 yX11_cellOf yX11_cellOf ∈ gT := gT_t 763 (by decide +kernel) rfl
theorem n_764 : Cond.code yX11_cellOf cX11_cellOf 2 (some .int) ∈ gT := gT_t 764 (by decide +kernel) rfl
theorem n_765 : Cond.methodLink RL 120 yL_joins ∈ gT := gT_t 765 (by decide +kernel) rfl
theorem n_766 : Cond.static yL_joins ∈ gT := gT_t 766 (by decide +kernel) rfl
theorem n_767 : Cond.code yL_joins cL_joins 6 none ∈ gT := gT_t 767 (by decide +kernel) rfl
theorem n_768 : Cond.methodLink RL 90 yL_event ∈ gT := gT_t 768 (by decide +kernel) rfl
theorem n_769 : Cond.static yL_event ∈ gT := gT_t 769 (by decide +kernel) rfl
theorem n_770 : Cond.code yL_event cL_event 4 (some .int) ∈ gT := gT_t 770 (by decide +kernel) rfl
theorem n_771 : Cond.methodLink RL 103 yX11_parties ∈ gT := gT_t 771 (by decide +kernel) rfl
theorem n_772 : Cond.instanceMethod yX11_parties ∈ gT := gT_t 772 (by decide +kernel) rfl
theorem n_773 : Cond.selects RX11 yX11_parties yX11_parties ∈ gT := gT_t 773 (by decide +kernel) rfl
theorem n_774 : Cond.code yX11_parties cX11_parties 2 (some .int) ∈ gT := gT_t 774 (by decide +kernel) rfl
theorem n_775 : Cond.methodLink RL 78 yX11_stateOf ∈ gT := gT_t 775 (by decide +kernel) rfl
theorem n_776 : Cond.instanceMethod yX11_stateOf ∈ gT := gT_t 776 (by decide +kernel) rfl
theorem n_777 : Cond.selects RX11 yX11_stateOf yX11_stateOf ∈ gT := gT_t 777 (by decide +kernel) rfl
theorem n_778 : Cond.code yX11_stateOf cX11_stateOf 2 (some .int) ∈ gT := gT_t 778 (by decide +kernel) rfl
theorem n_784 : Cond.methodLink RL 73 yL_part ∈ gT := gT_t 784 (by decide +kernel) rfl
theorem n_785 : Cond.static yL_part ∈ gT := gT_t 785 (by decide +kernel) rfl
theorem n_786 : Cond.code yL_part cL_part 3 (some .int) ∈ gT := gT_t 786 (by decide +kernel) rfl
theorem n_787 : Cond.methodLink RL 124 yX11_move ∈ gT := gT_t 787 (by decide +kernel) rfl
theorem n_788 : Cond.instanceMethod yX11_move ∈ gT := gT_t 788 (by decide +kernel) rfl
theorem n_789 : Cond.selects RX11 yX11_move yX11_move ∈ gT := gT_t 789 (by decide +kernel) rfl
theorem n_790 : Cond.code yX11_move cX11_move 6 (some .boolean) ∈ gT := gT_t 790 (by decide +kernel) rfl
theorem n_798 : Cond.methodLink RL 152 yL_wallets ∈ gT := gT_t 798 (by decide +kernel) rfl
theorem n_799 : Cond.static yL_wallets ∈ gT := gT_t 799 (by decide +kernel) rfl
theorem n_800 : Cond.code yL_wallets cL_wallets 10 (some .boolean) ∈ gT := gT_t 800 (by decide +kernel) rfl
theorem n_801 : Cond.methodLink RL 45 yX11_free ∈ gT := gT_t 801 (by decide +kernel) rfl
theorem n_802 : Cond.instanceMethod yX11_free ∈ gT := gT_t 802 (by decide +kernel) rfl
theorem n_803 : Cond.selects RX11 yX11_free yX11_free ∈ gT := gT_t 803 (by decide +kernel) rfl
theorem n_804 : Cond.code yX11_free cX11_free 2 (some .int) ∈ gT := gT_t 804 (by decide +kernel) rfl
theorem n_805 : Cond.methodLink RL 128 yX11_top ∈ gT := gT_t 805 (by decide +kernel) rfl
theorem n_806 : Cond.instanceMethod yX11_top ∈ gT := gT_t 806 (by decide +kernel) rfl
theorem n_807 : Cond.selects RX11 yX11_top yX11_top ∈ gT := gT_t 807 (by decide +kernel) rfl
theorem n_808 : Cond.code yX11_top cX11_top 4 (some .int) ∈ gT := gT_t 808 (by decide +kernel) rfl
theorem n_810 : Cond.methodLink RL 131 yL_buys ∈ gT := gT_t 810 (by decide +kernel) rfl
theorem n_811 : Cond.static yL_buys ∈ gT := gT_t 811 (by decide +kernel) rfl
theorem n_812 : Cond.codeWith yL_buys cL_buys 8 (some .int) (hdT [(3, 14, 39, 13)]) ∈ gT := gT_t 812 (by decide +kernel) rfl
theorem n_858 : Cond.methodLink RL 63 yX11_left ∈ gT := gT_t 858 (by decide +kernel) rfl
theorem n_859 : Cond.instanceMethod yX11_left ∈ gT := gT_t 859 (by decide +kernel) rfl
theorem n_860 : Cond.selects RX11 yX11_left yX11_left ∈ gT := gT_t 860 (by decide +kernel) rfl
theorem n_861 : Cond.code yX11_left cX11_left 3 (some .int) ∈ gT := gT_t 861 (by decide +kernel) rfl
theorem n_863 : Cond.methodLink RL 156 yL_sets ∈ gT := gT_t 863 (by decide +kernel) rfl
theorem n_864 : Cond.static yL_sets ∈ gT := gT_t 864 (by decide +kernel) rfl
theorem n_865 : Cond.code yL_sets cL_sets 8 (some .boolean) ∈ gT := gT_t 865 (by decide +kernel) rfl
theorem n_866 : Cond.methodLink RL 135 yX11_setRate ∈ gT := gT_t 866 (by decide +kernel) rfl
theorem n_867 : Cond.instanceMethod yX11_setRate ∈ gT := gT_t 867 (by decide +kernel) rfl
theorem n_868 : Cond.selects RX11 yX11_setRate yX11_setRate ∈ gT := gT_t 868 (by decide +kernel) rfl
theorem n_869 : Cond.code yX11_setRate cX11_setRate 6 (some .int) ∈ gT := gT_t 869 (by decide +kernel) rfl
theorem n_876 : Cond.methodLink RL 139 yX11_setChannels ∈ gT := gT_t 876 (by decide +kernel) rfl
theorem n_877 : Cond.instanceMethod yX11_setChannels ∈ gT := gT_t 877 (by decide +kernel) rfl
theorem n_878 : Cond.selects RX11 yX11_setChannels yX11_setChannels ∈ gT := gT_t 878 (by decide +kernel) rfl
theorem n_879 : Cond.code yX11_setChannels cX11_setChannels 5 (some .int) ∈ gT := gT_t 879 (by decide +kernel) rfl
theorem n_881 : Cond.methodLink RL 142 yX11_setSlice ∈ gT := gT_t 881 (by decide +kernel) rfl
theorem n_882 : Cond.instanceMethod yX11_setSlice ∈ gT := gT_t 882 (by decide +kernel) rfl
theorem n_883 : Cond.selects RX11 yX11_setSlice yX11_setSlice ∈ gT := gT_t 883 (by decide +kernel) rfl
theorem n_884 : Cond.code yX11_setSlice cX11_setSlice 3 (some .int) ∈ gT := gT_t 884 (by decide +kernel) rfl
theorem n_885 : Cond.methodLink RL 145 yX11_setCap ∈ gT := gT_t 885 (by decide +kernel) rfl
theorem n_886 : Cond.instanceMethod yX11_setCap ∈ gT := gT_t 886 (by decide +kernel) rfl
theorem n_887 : Cond.selects RX11 yX11_setCap yX11_setCap ∈ gT := gT_t 887 (by decide +kernel) rfl
theorem n_888 : Cond.code yX11_setCap cX11_setCap 5 (some .int) ∈ gT := gT_t 888 (by decide +kernel) rfl
theorem n_890 : Cond.methodLink RL 159 yL_lives ∈ gT := gT_t 890 (by decide +kernel) rfl
theorem n_891 : Cond.static yL_lives ∈ gT := gT_t 891 (by decide +kernel) rfl
theorem n_892 : Cond.code yL_lives cL_lives 7 (some .boolean) ∈ gT := gT_t 892 (by decide +kernel) rfl
theorem n_896 : Cond.methodLink RL 66 yX11_legs ∈ gT := gT_t 896 (by decide +kernel) rfl
theorem n_897 : Cond.instanceMethod yX11_legs ∈ gT := gT_t 897 (by decide +kernel) rfl
theorem n_898 : Cond.selects RX11 yX11_legs yX11_legs ∈ gT := gT_t 898 (by decide +kernel) rfl
theorem n_899 : Cond.code yX11_legs cX11_legs 1 (some .int) ∈ gT := gT_t 899 (by decide +kernel) rfl
theorem n_900 : Cond.methodLink RL 70 yX11_now ∈ gT := gT_t 900 (by decide +kernel) rfl
theorem n_901 : Cond.instanceMethod yX11_now ∈ gT := gT_t 901 (by decide +kernel) rfl
theorem n_902 : Cond.selects RX11 yX11_now yX11_now ∈ gT := gT_t 902 (by decide +kernel) rfl
theorem n_903 : Cond.code yX11_now cX11_now 1 (some .int) ∈ gT := gT_t 903 (by decide +kernel) rfl
theorem n_904 : Cond.methodLink RL 81 yX11_seconds ∈ gT := gT_t 904 (by decide +kernel) rfl
theorem n_905 : Cond.instanceMethod yX11_seconds ∈ gT := gT_t 905 (by decide +kernel) rfl
theorem n_906 : Cond.selects RX11 yX11_seconds yX11_seconds ∈ gT := gT_t 906 (by decide +kernel) rfl
theorem n_907 : Cond.code yX11_seconds cX11_seconds 2 (some .int) ∈ gT := gT_t 907 (by decide +kernel) rfl
theorem n_908 : Cond.methodLink RL 94 yX11_seal ∈ gT := gT_t 908 (by decide +kernel) rfl
theorem n_909 : Cond.instanceMethod yX11_seal ∈ gT := gT_t 909 (by decide +kernel) rfl
theorem n_910 : Cond.selects RX11 yX11_seal yX11_seal ∈ gT := gT_t 910 (by decide +kernel) rfl
theorem n_911 : Cond.code yX11_seal cX11_seal 2 (some .int) ∈ gT := gT_t 911 (by decide +kernel) rfl
theorem n_917 : Cond.methodLink RL 97 yX11_tag ∈ gT := gT_t 917 (by decide +kernel) rfl
theorem n_918 : Cond.instanceMethod yX11_tag ∈ gT := gT_t 918 (by decide +kernel) rfl
theorem n_919 : Cond.selects RX11 yX11_tag yX11_tag ∈ gT := gT_t 919 (by decide +kernel) rfl
theorem n_920 : Cond.code yX11_tag cX11_tag 2 (some .int) ∈ gT := gT_t 920 (by decide +kernel) rfl
theorem n_921 : Cond.methodLink RL 60 yX11_ratedByEvents ∈ gT := gT_t 921 (by decide +kernel) rfl
theorem n_922 : Cond.instanceMethod yX11_ratedByEvents ∈ gT := gT_t 922 (by decide +kernel) rfl
theorem n_923 : Cond.selects RX11 yX11_ratedByEvents yX11_ratedByEvents ∈ gT := gT_t 923 (by decide +kernel) rfl
theorem n_924 : Cond.code yX11_ratedByEvents cX11_ratedByEvents 7 (some .int) ∈ gT := gT_t 924 (by decide +kernel) rfl
theorem n_937 : Cond.methodLink RL 100 yX11_sliceOf ∈ gT := gT_t 937 (by decide +kernel) rfl
theorem n_938 : Cond.instanceMethod yX11_sliceOf ∈ gT := gT_t 938 (by decide +kernel) rfl
theorem n_939 : Cond.selects RX11 yX11_sliceOf yX11_sliceOf ∈ gT := gT_t 939 (by decide +kernel) rfl
theorem n_940 : Cond.code yX11_sliceOf cX11_sliceOf 3 (some .int) ∈ gT := gT_t 940 (by decide +kernel) rfl
theorem n_944 : Cond.methodLink RL 48 yX11_aside ∈ gT := gT_t 944 (by decide +kernel) rfl
theorem n_945 : Cond.instanceMethod yX11_aside ∈ gT := gT_t 945 (by decide +kernel) rfl
theorem n_946 : Cond.selects RX11 yX11_aside yX11_aside ∈ gT := gT_t 946 (by decide +kernel) rfl
theorem n_947 : Cond.code yX11_aside cX11_aside 8 (some .int) ∈ gT := gT_t 947 (by decide +kernel) rfl
theorem n_948 : Cond.methodLink RL 51 yX11_spent ∈ gT := gT_t 948 (by decide +kernel) rfl
theorem n_949 : Cond.instanceMethod yX11_spent ∈ gT := gT_t 949 (by decide +kernel) rfl
theorem n_950 : Cond.selects RX11 yX11_spent yX11_spent ∈ gT := gT_t 950 (by decide +kernel) rfl
theorem n_951 : Cond.code yX11_spent cX11_spent 2 (some .int) ∈ gT := gT_t 951 (by decide +kernel) rfl
theorem n_952 : Cond.methodLink RL 54 yX11_charged ∈ gT := gT_t 952 (by decide +kernel) rfl
theorem n_953 : Cond.instanceMethod yX11_charged ∈ gT := gT_t 953 (by decide +kernel) rfl
theorem n_954 : Cond.selects RX11 yX11_charged yX11_charged ∈ gT := gT_t 954 (by decide +kernel) rfl
theorem n_955 : Cond.code yX11_charged cX11_charged 2 (some .int) ∈ gT := gT_t 955 (by decide +kernel) rfl
theorem n_956 : Cond.methodLink RL 57 yX11_covered ∈ gT := gT_t 956 (by decide +kernel) rfl
theorem n_957 : Cond.instanceMethod yX11_covered ∈ gT := gT_t 957 (by decide +kernel) rfl
theorem n_958 : Cond.selects RX11 yX11_covered yX11_covered ∈ gT := gT_t 958 (by decide +kernel) rfl
theorem n_959 : Cond.code yX11_covered cX11_covered 2 (some .int) ∈ gT := gT_t 959 (by decide +kernel) rfl
theorem n_963 : Cond.methodLink RL 106 yX11_stamp ∈ gT := gT_t 963 (by decide +kernel) rfl
theorem n_964 : Cond.instanceMethod yX11_stamp ∈ gT := gT_t 964 (by decide +kernel) rfl
theorem n_965 : Cond.selects RX11 yX11_stamp yX11_stamp ∈ gT := gT_t 965 (by decide +kernel) rfl
theorem n_966 : Cond.code yX11_stamp cX11_stamp 6 (some .int) ∈ gT := gT_t 966 (by decide +kernel) rfl
theorem n_970 : Cond.methodLink RL 109 yX11_lineAt ∈ gT := gT_t 970 (by decide +kernel) rfl
theorem n_971 : Cond.instanceMethod yX11_lineAt ∈ gT := gT_t 971 (by decide +kernel) rfl
theorem n_972 : Cond.selects RX11 yX11_lineAt yX11_lineAt ∈ gT := gT_t 972 (by decide +kernel) rfl
theorem n_973 : Cond.code yX11_lineAt cX11_lineAt 5 (some .int) ∈ gT := gT_t 973 (by decide +kernel) rfl
theorem nh_yL_asks : yL_asks.cls ≠ "java/lang/invoke/MethodHandle" ∧ yL_asks.cls ≠ "java/lang/invoke/VarHandle" ∧ (parseMethodDescriptor yL_asks.desc).map (fun d => d.parameters.length) = some 5 := by decide +kernel
theorem nh_yL_buys : yL_buys.cls ≠ "java/lang/invoke/MethodHandle" ∧ yL_buys.cls ≠ "java/lang/invoke/VarHandle" ∧ (parseMethodDescriptor yL_buys.desc).map (fun d => d.parameters.length) = some 7 := by decide +kernel
theorem nh_yL_calls : yL_calls.cls = RL ∧ yL_calls.cls ≠ "java/lang/invoke/MethodHandle" ∧ yL_calls.cls ≠ "java/lang/invoke/VarHandle" ∧ (parseMethodDescriptor yL_calls.desc).map (fun d => d.parameters.length) = some 7 := by decide +kernel
theorem nh_yL_event : yL_event.cls = RL ∧ yL_event.cls ≠ "java/lang/invoke/MethodHandle" ∧ yL_event.cls ≠ "java/lang/invoke/VarHandle" ∧ (parseMethodDescriptor yL_event.desc).map (fun d => d.parameters.length) = some 4 := by decide +kernel
theorem nh_yL_joins : yL_joins.cls = RL ∧ yL_joins.cls ≠ "java/lang/invoke/MethodHandle" ∧ yL_joins.cls ≠ "java/lang/invoke/VarHandle" ∧ (parseMethodDescriptor yL_joins.desc).map (fun d => d.parameters.length) = some 6 := by decide +kernel
theorem nh_yL_lives : yL_lives.cls = RL ∧ yL_lives.cls ≠ "java/lang/invoke/MethodHandle" ∧ yL_lives.cls ≠ "java/lang/invoke/VarHandle" ∧ (parseMethodDescriptor yL_lives.desc).map (fun d => d.parameters.length) = some 3 := by decide +kernel
theorem nh_yL_part : yL_part.cls = RL ∧ yL_part.cls ≠ "java/lang/invoke/MethodHandle" ∧ yL_part.cls ≠ "java/lang/invoke/VarHandle" ∧ (parseMethodDescriptor yL_part.desc).map (fun d => d.parameters.length) = some 3 := by decide +kernel
theorem nh_yL_reads : yL_reads.cls = RL ∧ yL_reads.cls ≠ "java/lang/invoke/MethodHandle" ∧ yL_reads.cls ≠ "java/lang/invoke/VarHandle" ∧ (parseMethodDescriptor yL_reads.desc).map (fun d => d.parameters.length) = some 4 := by decide +kernel
theorem nh_yL_sets : yL_sets.cls = RL ∧ yL_sets.cls ≠ "java/lang/invoke/MethodHandle" ∧ yL_sets.cls ≠ "java/lang/invoke/VarHandle" ∧ (parseMethodDescriptor yL_sets.desc).map (fun d => d.parameters.length) = some 5 := by decide +kernel
theorem nh_yL_wallets : yL_wallets.cls = RL ∧ yL_wallets.cls ≠ "java/lang/invoke/MethodHandle" ∧ yL_wallets.cls ≠ "java/lang/invoke/VarHandle" ∧ (parseMethodDescriptor yL_wallets.desc).map (fun d => d.parameters.length) = some 5 := by decide +kernel
theorem nh_yX11_aside : yX11_aside.cls = RX11 ∧ yX11_aside.cls ≠ "java/lang/invoke/MethodHandle" ∧ yX11_aside.cls ≠ "java/lang/invoke/VarHandle" ∧ (parseMethodDescriptor yX11_aside.desc).map (fun d => d.parameters.length) = some 1 := by decide +kernel
theorem nh_yX11_cellOf : yX11_cellOf.cls = RX11 ∧ yX11_cellOf.cls ≠ "java/lang/invoke/MethodHandle" ∧ yX11_cellOf.cls ≠ "java/lang/invoke/VarHandle" ∧ (parseMethodDescriptor yX11_cellOf.desc).map (fun d => d.parameters.length) = some 1 := by decide +kernel
theorem nh_yX11_charged : yX11_charged.cls = RX11 ∧ yX11_charged.cls ≠ "java/lang/invoke/MethodHandle" ∧ yX11_charged.cls ≠ "java/lang/invoke/VarHandle" ∧ (parseMethodDescriptor yX11_charged.desc).map (fun d => d.parameters.length) = some 1 := by decide +kernel
theorem nh_yX11_covered : yX11_covered.cls = RX11 ∧ yX11_covered.cls ≠ "java/lang/invoke/MethodHandle" ∧ yX11_covered.cls ≠ "java/lang/invoke/VarHandle" ∧ (parseMethodDescriptor yX11_covered.desc).map (fun d => d.parameters.length) = some 1 := by decide +kernel
theorem nh_yX11_free : yX11_free.cls = RX11 ∧ yX11_free.cls ≠ "java/lang/invoke/MethodHandle" ∧ yX11_free.cls ≠ "java/lang/invoke/VarHandle" ∧ (parseMethodDescriptor yX11_free.desc).map (fun d => d.parameters.length) = some 1 := by decide +kernel
theorem nh_yX11_left : yX11_left.cls = RX11 ∧ yX11_left.cls ≠ "java/lang/invoke/MethodHandle" ∧ yX11_left.cls ≠ "java/lang/invoke/VarHandle" ∧ (parseMethodDescriptor yX11_left.desc).map (fun d => d.parameters.length) = some 1 := by decide +kernel
theorem nh_yX11_legOf : yX11_legOf.cls = RX11 ∧ yX11_legOf.cls ≠ "java/lang/invoke/MethodHandle" ∧ yX11_legOf.cls ≠ "java/lang/invoke/VarHandle" ∧ (parseMethodDescriptor yX11_legOf.desc).map (fun d => d.parameters.length) = some 1 := by decide +kernel
theorem nh_yX11_legs : yX11_legs.cls = RX11 ∧ yX11_legs.cls ≠ "java/lang/invoke/MethodHandle" ∧ yX11_legs.cls ≠ "java/lang/invoke/VarHandle" ∧ (parseMethodDescriptor yX11_legs.desc).map (fun d => d.parameters.length) = some 0 := by decide +kernel
theorem nh_yX11_lineAt : yX11_lineAt.cls = RX11 ∧ yX11_lineAt.cls ≠ "java/lang/invoke/MethodHandle" ∧ yX11_lineAt.cls ≠ "java/lang/invoke/VarHandle" ∧ (parseMethodDescriptor yX11_lineAt.desc).map (fun d => d.parameters.length) = some 2 := by decide +kernel
theorem nh_yX11_move : yX11_move.cls = RX11 ∧ yX11_move.cls ≠ "java/lang/invoke/MethodHandle" ∧ yX11_move.cls ≠ "java/lang/invoke/VarHandle" ∧ (parseMethodDescriptor yX11_move.desc).map (fun d => d.parameters.length) = some 2 := by decide +kernel
theorem nh_yX11_now : yX11_now.cls = RX11 ∧ yX11_now.cls ≠ "java/lang/invoke/MethodHandle" ∧ yX11_now.cls ≠ "java/lang/invoke/VarHandle" ∧ (parseMethodDescriptor yX11_now.desc).map (fun d => d.parameters.length) = some 0 := by decide +kernel
theorem nh_yX11_parties : yX11_parties.cls = RX11 ∧ yX11_parties.cls ≠ "java/lang/invoke/MethodHandle" ∧ yX11_parties.cls ≠ "java/lang/invoke/VarHandle" ∧ (parseMethodDescriptor yX11_parties.desc).map (fun d => d.parameters.length) = some 1 := by decide +kernel
theorem nh_yX11_ratedByEvents : yX11_ratedByEvents.cls = RX11 ∧ yX11_ratedByEvents.cls ≠ "java/lang/invoke/MethodHandle" ∧ yX11_ratedByEvents.cls ≠ "java/lang/invoke/VarHandle" ∧ (parseMethodDescriptor yX11_ratedByEvents.desc).map (fun d => d.parameters.length) = some 1 := by decide +kernel
theorem nh_yX11_seal : yX11_seal.cls = RX11 ∧ yX11_seal.cls ≠ "java/lang/invoke/MethodHandle" ∧ yX11_seal.cls ≠ "java/lang/invoke/VarHandle" ∧ (parseMethodDescriptor yX11_seal.desc).map (fun d => d.parameters.length) = some 1 := by decide +kernel
theorem nh_yX11_seconds : yX11_seconds.cls = RX11 ∧ yX11_seconds.cls ≠ "java/lang/invoke/MethodHandle" ∧ yX11_seconds.cls ≠ "java/lang/invoke/VarHandle" ∧ (parseMethodDescriptor yX11_seconds.desc).map (fun d => d.parameters.length) = some 1 := by decide +kernel
theorem nh_yX11_setCap : yX11_setCap.cls = RX11 ∧ yX11_setCap.cls ≠ "java/lang/invoke/MethodHandle" ∧ yX11_setCap.cls ≠ "java/lang/invoke/VarHandle" ∧ (parseMethodDescriptor yX11_setCap.desc).map (fun d => d.parameters.length) = some 2 := by decide +kernel
theorem nh_yX11_setChannels : yX11_setChannels.cls = RX11 ∧ yX11_setChannels.cls ≠ "java/lang/invoke/MethodHandle" ∧ yX11_setChannels.cls ≠ "java/lang/invoke/VarHandle" ∧ (parseMethodDescriptor yX11_setChannels.desc).map (fun d => d.parameters.length) = some 3 := by decide +kernel
theorem nh_yX11_setRate : yX11_setRate.cls = RX11 ∧ yX11_setRate.cls ≠ "java/lang/invoke/MethodHandle" ∧ yX11_setRate.cls ≠ "java/lang/invoke/VarHandle" ∧ (parseMethodDescriptor yX11_setRate.desc).map (fun d => d.parameters.length) = some 3 := by decide +kernel
theorem nh_yX11_setSlice : yX11_setSlice.cls = RX11 ∧ yX11_setSlice.cls ≠ "java/lang/invoke/MethodHandle" ∧ yX11_setSlice.cls ≠ "java/lang/invoke/VarHandle" ∧ (parseMethodDescriptor yX11_setSlice.desc).map (fun d => d.parameters.length) = some 1 := by decide +kernel
theorem nh_yX11_sliceOf : yX11_sliceOf.cls = RX11 ∧ yX11_sliceOf.cls ≠ "java/lang/invoke/MethodHandle" ∧ yX11_sliceOf.cls ≠ "java/lang/invoke/VarHandle" ∧ (parseMethodDescriptor yX11_sliceOf.desc).map (fun d => d.parameters.length) = some 1 := by decide +kernel
theorem nh_yX11_spent : yX11_spent.cls = RX11 ∧ yX11_spent.cls ≠ "java/lang/invoke/MethodHandle" ∧ yX11_spent.cls ≠ "java/lang/invoke/VarHandle" ∧ (parseMethodDescriptor yX11_spent.desc).map (fun d => d.parameters.length) = some 1 := by decide +kernel
theorem nh_yX11_stamp : yX11_stamp.cls = RX11 ∧ yX11_stamp.cls ≠ "java/lang/invoke/MethodHandle" ∧ yX11_stamp.cls ≠ "java/lang/invoke/VarHandle" ∧ (parseMethodDescriptor yX11_stamp.desc).map (fun d => d.parameters.length) = some 1 := by decide +kernel
theorem nh_yX11_stateOf : yX11_stateOf.cls = RX11 ∧ yX11_stateOf.cls ≠ "java/lang/invoke/MethodHandle" ∧ yX11_stateOf.cls ≠ "java/lang/invoke/VarHandle" ∧ (parseMethodDescriptor yX11_stateOf.desc).map (fun d => d.parameters.length) = some 1 := by decide +kernel
theorem nh_yX11_tag : yX11_tag.cls = RX11 ∧ yX11_tag.cls ≠ "java/lang/invoke/MethodHandle" ∧ yX11_tag.cls ≠ "java/lang/invoke/VarHandle" ∧ (parseMethodDescriptor yX11_tag.desc).map (fun d => d.parameters.length) = some 1 := by decide +kernel
theorem nh_yX11_top : yX11_top.cls = RX11 ∧ yX11_top.cls ≠ "java/lang/invoke/MethodHandle" ∧ yX11_top.cls ≠ "java/lang/invoke/VarHandle" ∧ (parseMethodDescriptor yX11_top.desc).map (fun d => d.parameters.length) = some 2 := by decide +kernel
-- draw([III)I
def fl_draw_23 (Ls : Nat) (sc : Nat → Int32) (σ : GS) (v2 : Int32) (s0 : Int32) : Option (Int32) := if v2 = 0 then none else some (((s0 &&& 2147483647) - (s0 &&& 2147483647) / v2 * v2))
set_option maxRecDepth 100000 in
set_option maxHeartbeats 4000000 in
theorem bl_draw_23 {p : Program} {l : Launch} {e : Env} {s : State} {m : MethodId} {args : Array Value} {below : List Frame} {meth : Method} {c : Code} {D : va_G} {dA : Nat → ClassId} {A : Nat → Prop} {ar : Nat → Nat} {ob b Ls : Nat} {sc : Nat → Int32} {σ : GS} {o : Int32} (X : zc p l s m args meth c cL_draw RL D dA A) (Y : zY s A b Ls sc) (hml : c.maxLocals = 4) (hr : meth.sig.returnType = (some .int)) {v2 : Int32} {s0 : Int32} (h : fl_draw_23 Ls sc σ v2 s0 = some o) : zz p l e ({ frames := 1, cells := 0, slots := 0, locals := 42 } : Room) s m args below meth c A (gw D dA A σ ob ar) 0 0 (MQ below (va_Qi (fun r (_ : Unit) => r = o ∧ True) (fun _ t => gw D dA A σ ob ar t.heap) A) args s (0) (0) A) 23 [(2, .int (v2))] [] [.int (s0)] := by
  unfold fl_draw_23 at h
  refine z_istore_n (lo' := [(3, .int (s0)), (2, .int (v2))]) X dL_draw_23 rfl (by rw [hml]; decide) rfl rfl ?_
  refine z_iload_n X dL_draw_24 rfl rfl ?_
  refine z_ldc X n_306 dL_draw_25 ?_
  refine z_iand X dL_draw_27 ?_
  refine z_iload_n X dL_draw_28 rfl rfl ?_
  obtain ⟨q1, h⟩ := zg h
  refine z_irem X dL_draw_29 q1 ?_
  obtain rfl := Option.some.inj h
  exact z_iret X hr rfl (fun t hG hF _ => ⟨⟨_, (), rfl, ⟨rfl, trivial⟩, hG⟩, hF⟩) dL_draw_30
def fl_draw (Ls : Nat) (sc : Nat → Int32) (σ : GS) (a1 : Int32) (a2 : Int32) : Option (Int32) := (if (Int32.ofNat Ls) ≤ a1 then fl_draw_23 σ a2 ((868739541 * (a1 + 557)) + 799127491)
  else if a1 < 0 ∨ Ls ≤ (a1).toNatClampNeg then none else fl_draw_23 σ a2 (sc (a1).toNatClampNeg))
set_option maxRecDepth 100000 in
set_option maxHeartbeats 4000000 in
theorem bl_draw {p : Program} {l : Launch} {e : Env} {s : State} {m : MethodId} {args : Array Value} {below : List Frame} {meth : Method} {c : Code} {D : va_G} {dA : Nat → ClassId} {A : Nat → Prop} {ar : Nat → Nat} {ob b Ls : Nat} {sc : Nat → Int32} {σ : GS} {o : Int32} (X : zc p l s m args meth c cL_draw RL D dA A) (Y : zY s A b Ls sc) (hml : c.maxLocals = 4) (hr : meth.sig.returnType = (some .int)) {a1 : Int32} {a2 : Int32} (h : fl_draw Ls sc σ a1 a2 = some o) : zz p l e ({ frames := 1, cells := 0, slots := 0, locals := 42 } : Room) s m args below meth c A (gw D dA A σ ob ar) 0 0 (MQ below (va_Qi (fun r (_ : Unit) => r = o ∧ True) (fun _ t => gw D dA A σ ob ar t.heap) A) args s (0) (0) A) 0 [(0, .ref b), (1, .int (a1)), (2, .int (a2))] [] [] := by
  unfold fl_draw at h
  refine z_iload_n X dL_draw_0 rfl rfl ?_
  refine z_aload_n X dL_draw_1 rfl rfl ?_
  refine z_slen X Y.2.1 Y.2.2.1 Y.2.2.2 dL_draw_2 ?_
  refine z_icmp_ge (tgt := 12) X dL_draw_3 (by decide) (fun q => ?_) (fun q => ?_)
  · have h := zp q h
    refine z_ldc X n_304 dL_draw_12 ?_
    refine z_iload_n X dL_draw_14 rfl rfl ?_
    refine z_sipush (v := 557) X dL_draw_15 (by decide) ?_
    refine z_iadd X dL_draw_18 ?_
    refine z_imul X dL_draw_19 ?_
    refine z_ldc X n_305 dL_draw_20 ?_
    refine z_iadd X dL_draw_22 ?_
    refine zz.pick (lo' := [(2, .int (a2))]) [2] rfl ?_
    exact bl_draw_23 X Y hml hr h
  · have h := zn q h
    refine z_aload_n X dL_draw_6 rfl rfl ?_
    refine z_iload_n X dL_draw_7 rfl rfl ?_
    obtain ⟨q1, h⟩ := zg h
    refine z_sld X Y.2.1 Y.2.2.1 Y.2.2.2 q1 dL_draw_8 ?_
    refine z_goto (tgt := 23) X dL_draw_9 (by decide) ?_
    refine zz.pick (lo' := [(2, .int (a2))]) [2] rfl ?_
    exact bl_draw_23 X Y hml hr h
theorem ll_draw (l : Launch) {D : va_G} {dA : Nat → ClassId} {A : Nat → Prop} {n : Nat} {ar : Nat → Nat} {ob b Ls : Nat} {sc : Nat → Int32} (hst : l.stackTraces = false) (hA : ∀ q, n ≤ q → A q) (hbA : ¬ A b) {σ : GS} {a1 : Int32} {a2 : Int32} {o : Int32} (h : fl_draw Ls sc σ a1 a2 = some o) : Met l yL_draw (.code yL_draw cL_draw 4 (some .int) :: gT) ({ frames := 1, cells := 0, slots := 0, locals := 42 } : Room) (va_Pc [.ref b, .int (a1), .int (a2)] (zBL D dA A n b Ls sc (gw D dA A σ ob ar))) (va_Qi (fun r (_ : Unit) => r = o ∧ True) (fun _ t => gw D dA A σ ob ar t.heap) A) (0) (0) A :=
  z_metL (by decide) hA hbA hst (Nat.le_of_ble_eq_true rfl) rfl rfl (fun p e s m below meth c X Y hml hr => bl_draw X Y hml hr h)
-- part(III)I
def fl_part (σ : GS) (a1 : Int32) (a2 : Int32) (a3 : Int32) : Option (Int32) := some (((a1 >>> (a2 &&& 31)) &&& ((1 <<< (a3 &&& 31)) - 1)))
set_option maxRecDepth 100000 in
set_option maxHeartbeats 4000000 in
theorem bl_part {p : Program} {l : Launch} {e : Env} {s : State} {m : MethodId} {args : Array Value} {below : List Frame} {meth : Method} {c : Code} {D : va_G} {dA : Nat → ClassId} {A : Nat → Prop} {ar : Nat → Nat} {ob b Ls : Nat} {sc : Nat → Int32} {σ : GS} {o : Int32} (X : zc p l s m args meth c cL_part RL D dA A) (Y : zY s A b Ls sc) (hml : c.maxLocals = 3) (hr : meth.sig.returnType = (some .int)) {a1 : Int32} {a2 : Int32} {a3 : Int32} (h : fl_part σ a1 a2 a3 = some o) : zz p l e ({ frames := 1, cells := 0, slots := 0, locals := 42 } : Room) s m args below meth c A (gw D dA A σ ob ar) 0 0 (MQ below (va_Qi (fun r (_ : Unit) => r = o ∧ True) (fun _ t => gw D dA A σ ob ar t.heap) A) args s (0) (0) A) 0 [(0, .int (a1)), (1, .int (a2)), (2, .int (a3))] [] [] := by
  unfold fl_part at h
  refine z_iload_n X dL_part_0 rfl rfl ?_
  refine z_iload_n X dL_part_1 rfl rfl ?_
  refine z_ishr X dL_part_2 ?_
  refine z_iconst (v := 1) X dL_part_3 (by decide) ?_
  refine z_iload_n X dL_part_4 rfl rfl ?_
  refine z_ishl X dL_part_5 ?_
  refine z_iconst (v := 1) X dL_part_6 (by decide) ?_
  refine z_isub X dL_part_7 ?_
  refine z_iand X dL_part_8 ?_
  obtain rfl := Option.some.inj h
  exact z_iret X hr rfl (fun t hG hF _ => ⟨⟨_, (), rfl, ⟨rfl, trivial⟩, hG⟩, hF⟩) dL_part_9
theorem ll_part (l : Launch) {D : va_G} {dA : Nat → ClassId} {A : Nat → Prop} {n : Nat} {ar : Nat → Nat} {ob b Ls : Nat} {sc : Nat → Int32} (hst : l.stackTraces = false) (hA : ∀ q, n ≤ q → A q) (hbA : ¬ A b) {σ : GS} {a1 : Int32} {a2 : Int32} {a3 : Int32} {o : Int32} (h : fl_part σ a1 a2 a3 = some o) : Met l yL_part (.code yL_part cL_part 3 (some .int) :: gT) ({ frames := 1, cells := 0, slots := 0, locals := 42 } : Room) (va_Pc [.int (a1), .int (a2), .int (a3)] (zBL D dA A n b Ls sc (gw D dA A σ ob ar))) (va_Qi (fun r (_ : Unit) => r = o ∧ True) (fun _ t => gw D dA A σ ob ar t.heap) A) (0) (0) A :=
  z_metL (by decide) hA hbA hst (Nat.le_of_ble_eq_true rfl) rfl rfl (fun p e s m below meth c X Y hml hr => bl_part X Y hml hr h)
-- event(IIII)I
def fl_event (σ : GS) (a1 : Int32) (a2 : Int32) (a3 : Int32) (a4 : Int32) : Option (Int32) := some (((((a1 <<< (5 &&& 31)) ||| (((a1 : Int32).toUInt32 >>> ((27 : Int32).toUInt32 &&& Int32.toUInt32 31)).toInt32)) + (31 * a3)) ^^^ ((8 * a2) + a4)))
set_option maxRecDepth 100000 in
set_option maxHeartbeats 4000000 in
theorem bl_event {p : Program} {l : Launch} {e : Env} {s : State} {m : MethodId} {args : Array Value} {below : List Frame} {meth : Method} {c : Code} {D : va_G} {dA : Nat → ClassId} {A : Nat → Prop} {ar : Nat → Nat} {ob b Ls : Nat} {sc : Nat → Int32} {σ : GS} {o : Int32} (X : zc p l s m args meth c cL_event RL D dA A) (Y : zY s A b Ls sc) (hml : c.maxLocals = 4) (hr : meth.sig.returnType = (some .int)) {a1 : Int32} {a2 : Int32} {a3 : Int32} {a4 : Int32} (h : fl_event σ a1 a2 a3 a4 = some o) : zz p l e ({ frames := 1, cells := 0, slots := 0, locals := 42 } : Room) s m args below meth c A (gw D dA A σ ob ar) 0 0 (MQ below (va_Qi (fun r (_ : Unit) => r = o ∧ True) (fun _ t => gw D dA A σ ob ar t.heap) A) args s (0) (0) A) 0 [(0, .int (a1)), (1, .int (a2)), (2, .int (a3)), (3, .int (a4))] [] [] := by
  unfold fl_event at h
  refine z_iload_n X dL_event_0 rfl rfl ?_
  refine z_iconst (v := 5) X dL_event_1 (by decide) ?_
  refine z_ishl X dL_event_2 ?_
  refine z_iload_n X dL_event_3 rfl rfl ?_
  refine z_bipush (v := 27) X dL_event_4 (by decide) ?_
  refine z_iushr X dL_event_6 ?_
  refine z_ior X dL_event_7 ?_
  refine z_bipush (v := 31) X dL_event_8 (by decide) ?_
  refine z_iload_n X dL_event_10 rfl rfl ?_
  refine z_imul X dL_event_11 ?_
  refine z_iadd X dL_event_12 ?_
  refine z_bipush (v := 8) X dL_event_13 (by decide) ?_
  refine z_iload_n X dL_event_15 rfl rfl ?_
  refine z_imul X dL_event_16 ?_
  refine z_iload_n X dL_event_17 rfl rfl ?_
  refine z_iadd X dL_event_18 ?_
  refine z_ixor X dL_event_19 ?_
  obtain rfl := Option.some.inj h
  exact z_iret X hr rfl (fun t hG hF _ => ⟨⟨_, (), rfl, ⟨rfl, trivial⟩, hG⟩, hF⟩) dL_event_20
theorem ll_event (l : Launch) {D : va_G} {dA : Nat → ClassId} {A : Nat → Prop} {n : Nat} {ar : Nat → Nat} {ob b Ls : Nat} {sc : Nat → Int32} (hst : l.stackTraces = false) (hA : ∀ q, n ≤ q → A q) (hbA : ¬ A b) {σ : GS} {a1 : Int32} {a2 : Int32} {a3 : Int32} {a4 : Int32} {o : Int32} (h : fl_event σ a1 a2 a3 a4 = some o) : Met l yL_event (.code yL_event cL_event 4 (some .int) :: gT) ({ frames := 1, cells := 0, slots := 0, locals := 42 } : Room) (va_Pc [.int (a1), .int (a2), .int (a3), .int (a4)] (zBL D dA A n b Ls sc (gw D dA A σ ob ar))) (va_Qi (fun r (_ : Unit) => r = o ∧ True) (fun _ t => gw D dA A σ ob ar t.heap) A) (0) (0) A :=
  z_metL (by decide) hA hbA hst (Nat.le_of_ble_eq_true rfl) rfl rfl (fun p e s m below meth c X Y hml hr => bl_event X Y hml hr h)
-- isWhole(LMeshBiller;[I)Z
def fl_isWhole_223 (k184 : GS → Int32 → Int32 → Int64 → Int64 → Option (Int32)) (σ : GS) (v7 : Int32) (u2 : Int64) (u4 : Int64) (s0 : Int32) : Option (Int32) := (some (v7 + 1)).bind fun x1 => k184 σ s0 x1 (u2) (u4)
set_option maxRecDepth 100000 in
set_option maxHeartbeats 4000000 in
theorem bl_isWhole_223 {p : Program} {l : Launch} {e : Env} {s : State} {m : MethodId} {args : Array Value} {below : List Frame} {meth : Method} {c : Code} {D : va_G} {dA : Nat → ClassId} {A : Nat → Prop} {ar : Nat → Nat} {ob b Ls : Nat} {sc : Nat → Int32} {σ : GS} {o : Int32} (X : zc p l s m args meth c cL_isWhole RL D dA A) (Y : zY s A b Ls sc) (hml : c.maxLocals = 8) (hr : meth.sig.returnType = (some .boolean)) {k184 : GS → Int32 → Int32 → Int64 → Int64 → Option (Int32)} (hk184 : ∀ {v6 : Int32} {v7 : Int32} {u2 : Int64} {u4 : Int64}, k184 σ v6 v7 u2 u4 = some o → zz p l e ({ frames := 12, cells := 0, slots := 0, locals := 504 } : Room) s m args below meth c A (gw D dA A σ ob ar) 0 0 (MQ below (va_Qi (fun r (_ : Unit) => r = o ∧ True) (fun _ t => gw D dA A σ ob ar t.heap) A) args s (0) (0) A) 184 [(0, .ref ob), (1, .ref (ar 2)), (6, .int (v6)), (7, .int (v7))] [(2, u2), (4, u4)] []) {v7 : Int32} {u2 : Int64} {u4 : Int64} {s0 : Int32} (h : fl_isWhole_223 k184 σ v7 u2 u4 s0 = some o) : zz p l e ({ frames := 12, cells := 0, slots := 0, locals := 504 } : Room) s m args below meth c A (gw D dA A σ ob ar) 0 0 (MQ below (va_Qi (fun r (_ : Unit) => r = o ∧ True) (fun _ t => gw D dA A σ ob ar t.heap) A) args s (0) (0) A) 223 [(0, .ref ob), (1, .ref (ar 2)), (7, .int (v7))] [(2, u2), (4, u4)] [.int (s0)] := by
  unfold fl_isWhole_223 at h
  refine z_istore (lo' := [(6, .int (s0)), (0, .ref ob), (1, .ref (ar 2)), (7, .int (v7))]) X dL_isWhole_223 (by rw [hml]; decide) rfl rfl ?_
  obtain ⟨x1, ex1, h⟩ := zb h
  refine z_iinc (v := x1) (lo' := [(7, .int (x1)), (6, .int (s0)), (0, .ref ob), (1, .ref (ar 2))]) X dL_isWhole_225 rfl ex1 (by rw [hml]; decide) rfl rfl ?_
  refine z_goto (tgt := 184) X dL_isWhole_228 (by decide) ?_
  refine zz.pick (lo' := [(0, .ref ob), (1, .ref (ar 2)), (6, .int (s0)), (7, .int (x1))]) [0, 1, 6, 7] rfl ?_
  exact hk184  h
def fl_isWhole_222 (k184 : GS → Int32 → Int32 → Int64 → Int64 → Option (Int32)) (σ : GS) (v7 : Int32) (u2 : Int64) (u4 : Int64) : Option (Int32) := fl_isWhole_223 k184 σ v7 (u2) (u4) 0
set_option maxRecDepth 100000 in
set_option maxHeartbeats 4000000 in
theorem bl_isWhole_222 {p : Program} {l : Launch} {e : Env} {s : State} {m : MethodId} {args : Array Value} {below : List Frame} {meth : Method} {c : Code} {D : va_G} {dA : Nat → ClassId} {A : Nat → Prop} {ar : Nat → Nat} {ob b Ls : Nat} {sc : Nat → Int32} {σ : GS} {o : Int32} (X : zc p l s m args meth c cL_isWhole RL D dA A) (Y : zY s A b Ls sc) (hml : c.maxLocals = 8) (hr : meth.sig.returnType = (some .boolean)) {k184 : GS → Int32 → Int32 → Int64 → Int64 → Option (Int32)} (hk184 : ∀ {v6 : Int32} {v7 : Int32} {u2 : Int64} {u4 : Int64}, k184 σ v6 v7 u2 u4 = some o → zz p l e ({ frames := 12, cells := 0, slots := 0, locals := 504 } : Room) s m args below meth c A (gw D dA A σ ob ar) 0 0 (MQ below (va_Qi (fun r (_ : Unit) => r = o ∧ True) (fun _ t => gw D dA A σ ob ar t.heap) A) args s (0) (0) A) 184 [(0, .ref ob), (1, .ref (ar 2)), (6, .int (v6)), (7, .int (v7))] [(2, u2), (4, u4)] []) {v7 : Int32} {u2 : Int64} {u4 : Int64} (h : fl_isWhole_222 k184 σ v7 u2 u4 = some o) : zz p l e ({ frames := 12, cells := 0, slots := 0, locals := 504 } : Room) s m args below meth c A (gw D dA A σ ob ar) 0 0 (MQ below (va_Qi (fun r (_ : Unit) => r = o ∧ True) (fun _ t => gw D dA A σ ob ar t.heap) A) args s (0) (0) A) 222 [(0, .ref ob), (1, .ref (ar 2)), (7, .int (v7))] [(2, u2), (4, u4)] [] := by
  unfold fl_isWhole_222 at h
  refine z_iconst (v := 0) X dL_isWhole_222 (by decide) ?_
  refine zz.pick (lo' := [(0, .ref ob), (1, .ref (ar 2)), (7, .int (v7))]) [0, 1, 7] rfl ?_
  exact bl_isWhole_223 X Y hml hr hk184 h
def fl_isWhole_184 : Nat → GS → Int32 → Int32 → Int64 → Int64 → Option (Int32)
  | 0, _, _, _, _, _ => none
  | n + 1, σ, v6, v7, u2, u4 => (if (σ.2 2 (3).toNatClampNeg) ≤ v7 then (if v6 = 0 then some (0)
  else (if (lg_cmp u2 ((σ.2 2 (4).toNatClampNeg) : Int32).toInt64) = 0 then (if (lg_cmp u4 0) = 0 then some (1)
  else some (0))
  else some (0)))
  else (if v6 = 0 then fl_isWhole_222 (fl_isWhole_184 n) σ v7 (u2) (u4)
  else (aq_left σ.1 (v7)).bind fun o1 => (if o1 < 0 then fl_isWhole_222 (fl_isWhole_184 n) σ v7 (u2) (u4)
  else (aq_left σ.1 (v7)).bind fun o2 => (if 5000 < o2 then fl_isWhole_222 (fl_isWhole_184 n) σ v7 (u2) (u4)
  else fl_isWhole_223 (fl_isWhole_184 n) σ v7 (u2) (u4) 1))))
set_option maxRecDepth 100000 in
set_option maxHeartbeats 4000000 in
theorem bl_isWhole_184 {p : Program} {l : Launch} {e : Env} {s : State} {m : MethodId} {args : Array Value} {below : List Frame} {meth : Method} {c : Code} {D : va_G} {dA : Nat → ClassId} {A : Nat → Prop} {ar : Nat → Nat} {ob b Ls : Nat} {sc : Nat → Int32} {σ : GS} {o : Int32} (X : zc p l s m args meth c cL_isWhole RL D dA A) (Y : zY s A b Ls sc) (hml : c.maxLocals = 8) (hr : meth.sig.returnType = (some .boolean)) : ∀ (n : Nat) {v6 : Int32} {v7 : Int32} {u2 : Int64} {u4 : Int64}, fl_isWhole_184 n σ v6 v7 u2 u4 = some o → zz p l e ({ frames := 12, cells := 0, slots := 0, locals := 504 } : Room) s m args below meth c A (gw D dA A σ ob ar) 0 0 (MQ below (va_Qi (fun r (_ : Unit) => r = o ∧ True) (fun _ t => gw D dA A σ ob ar t.heap) A) args s (0) (0) A) 184 [(0, .ref ob), (1, .ref (ar 2)), (6, .int (v6)), (7, .int (v7))] [(2, u2), (4, u4)] [] := by
  intro n
  induction n with
  | zero => intro v6 v7 u2 u4 h; exact (nomatch (show none = some o from h))
  | succ n ih =>
    intro v6 v7 u2 u4 h
    rw [fl_isWhole_184] at h
    refine z_iload X dL_isWhole_184 rfl ?_
    refine z_aload_n X dL_isWhole_186 rfl rfl ?_
    refine z_iconst (v := 3) X dL_isWhole_187 (by decide) ?_
    refine l_ald X 2 rfl (by decide) dL_isWhole_188 ?_
    refine z_icmp_ge (tgt := 231) X dL_isWhole_189 (by decide) (fun q => ?_) (fun q => ?_)
    · have h := zp q h
      refine z_iload X dL_isWhole_231 rfl ?_
      refine z_if_eq (tgt := 256) X dL_isWhole_233 (by decide) (fun q => ?_) (fun q => ?_)
      · have h := zp q h
        refine z_iconst (v := 0) X dL_isWhole_256 (by decide) ?_
        obtain rfl := Option.some.inj h
        exact z_iret X hr rfl (fun t hG hF _ => ⟨⟨_, (), rfl, ⟨rfl, trivial⟩, hG⟩, hF⟩) dL_isWhole_257
      · have h := zn q h
        refine z_lload_n X dL_isWhole_236 rfl rfl ?_
        refine z_aload_n X dL_isWhole_237 rfl rfl ?_
        refine z_iconst (v := 4) X dL_isWhole_238 (by decide) ?_
        refine l_ald X 2 rfl (by decide) dL_isWhole_239 ?_
        refine z_i2l X dL_isWhole_240 ?_
        refine z_lcmp X dL_isWhole_241 ?_
        refine z_if_ne (tgt := 256) X dL_isWhole_242 (by decide) (fun q => ?_) (fun q => ?_)
        · have h := zp q h
          refine z_lload X dL_isWhole_245 rfl ?_
          refine z_lconst (v := 0) X dL_isWhole_247 (by decide) ?_
          refine z_lcmp X dL_isWhole_248 ?_
          refine z_if_ne (tgt := 256) X dL_isWhole_249 (by decide) (fun q => ?_) (fun q => ?_)
          · have h := zp q h
            refine z_iconst (v := 1) X dL_isWhole_252 (by decide) ?_
            refine z_goto (tgt := 257) X dL_isWhole_253 (by decide) ?_
            obtain rfl := Option.some.inj h
            exact z_iret X hr rfl (fun t hG hF _ => ⟨⟨_, (), rfl, ⟨rfl, trivial⟩, hG⟩, hF⟩) dL_isWhole_257
          · have h := zn q h
            refine z_iconst (v := 0) X dL_isWhole_256 (by decide) ?_
            obtain rfl := Option.some.inj h
            exact z_iret X hr rfl (fun t hG hF _ => ⟨⟨_, (), rfl, ⟨rfl, trivial⟩, hG⟩, hF⟩) dL_isWhole_257
        · have h := zn q h
          refine z_iconst (v := 0) X dL_isWhole_256 (by decide) ?_
          obtain rfl := Option.some.inj h
          exact z_iret X hr rfl (fun t hG hF _ => ⟨⟨_, (), rfl, ⟨rfl, trivial⟩, hG⟩, hF⟩) dL_isWhole_257
    · have h := zn q h
      refine z_iload X dL_isWhole_192 rfl ?_
      refine z_if_eq (tgt := 222) X dL_isWhole_194 (by decide) (fun q => ?_) (fun q => ?_)
      · have h := zp q h
        refine zz.pick (lo' := [(0, .ref ob), (1, .ref (ar 2)), (7, .int (v7))]) [0, 1, 7] rfl ?_
        exact bl_isWhole_222 X Y hml hr ih h
      · have h := zn q h
        refine z_aload_n X dL_isWhole_197 rfl rfl ?_
        refine z_iload X dL_isWhole_198 rfl ?_
        obtain ⟨o1, co1, h⟩ := zb2 h
        refine l_q (As := [.int (v7)]) (rest := []) (nA := 1) (mc := 0) (ms := 0) (rm := ({ frames := 9, cells := 0, slots := 0, locals := 378 } : Room)) (r0 := o1) X (fun _ h11 => cz_left l X.2.2.2.2.2.2.2.2 X.2.2.2.2.2.2.1 h11 (fun _ z => nomatch z) (qo_eq co1)) n_858 n_859 n_860 n_1 n_861 nh_yX11_left ⟨rfl, rfl, Nat.le_of_ble_eq_true rfl, Nat.le_of_ble_eq_true rfl⟩ rfl rfl (Nat.le_of_ble_eq_true rfl) dL_isWhole_200 ⟨by show _ ≤ 0; omega, by show _ ≤ 0; omega⟩ ?_
        refine z_if_lt (tgt := 222) X dL_isWhole_203 (by decide) (fun q => ?_) (fun q => ?_)
        · have h := zp q h
          refine zz.pick (lo' := [(0, .ref ob), (1, .ref (ar 2)), (7, .int (v7))]) [0, 1, 7] rfl ?_
          exact bl_isWhole_222 X Y hml hr ih h
        · have h := zn q h
          refine z_aload_n X dL_isWhole_206 rfl rfl ?_
          refine z_iload X dL_isWhole_207 rfl ?_
          obtain ⟨o2, co2, h⟩ := zb2 h
          refine l_q (As := [.int (v7)]) (rest := []) (nA := 1) (mc := 0) (ms := 0) (rm := ({ frames := 9, cells := 0, slots := 0, locals := 378 } : Room)) (r0 := o2) X (fun _ h11 => cz_left l X.2.2.2.2.2.2.2.2 X.2.2.2.2.2.2.1 h11 (fun _ z => nomatch z) (qo_eq co2)) n_858 n_859 n_860 n_1 n_861 nh_yX11_left ⟨rfl, rfl, Nat.le_of_ble_eq_true rfl, Nat.le_of_ble_eq_true rfl⟩ rfl rfl (Nat.le_of_ble_eq_true rfl) dL_isWhole_209 ⟨by show _ ≤ 0; omega, by show _ ≤ 0; omega⟩ ?_
          refine z_sipush (v := 5000) X dL_isWhole_212 (by decide) ?_
          refine z_icmp_gt (tgt := 222) X dL_isWhole_215 (by decide) (fun q => ?_) (fun q => ?_)
          · have h := zp q h
            refine zz.pick (lo' := [(0, .ref ob), (1, .ref (ar 2)), (7, .int (v7))]) [0, 1, 7] rfl ?_
            exact bl_isWhole_222 X Y hml hr ih h
          · have h := zn q h
            refine z_iconst (v := 1) X dL_isWhole_218 (by decide) ?_
            refine z_goto (tgt := 223) X dL_isWhole_219 (by decide) ?_
            refine zz.pick (lo' := [(0, .ref ob), (1, .ref (ar 2)), (7, .int (v7))]) [0, 1, 7] rfl ?_
            exact bl_isWhole_223 X Y hml hr ih h
def fl_isWhole_173 (k103 : GS → Int32 → Int32 → Int64 → Int64 → Option (Int32)) (σ : GS) (v7 : Int32) (u2 : Int64) (u4 : Int64) (s0 : Int32) : Option (Int32) := (some (v7 + 1)).bind fun x1 => k103 σ s0 x1 (u2) (u4)
set_option maxRecDepth 100000 in
set_option maxHeartbeats 4000000 in
theorem bl_isWhole_173 {p : Program} {l : Launch} {e : Env} {s : State} {m : MethodId} {args : Array Value} {below : List Frame} {meth : Method} {c : Code} {D : va_G} {dA : Nat → ClassId} {A : Nat → Prop} {ar : Nat → Nat} {ob b Ls : Nat} {sc : Nat → Int32} {σ : GS} {o : Int32} (X : zc p l s m args meth c cL_isWhole RL D dA A) (Y : zY s A b Ls sc) (hml : c.maxLocals = 8) (hr : meth.sig.returnType = (some .boolean)) {k103 : GS → Int32 → Int32 → Int64 → Int64 → Option (Int32)} (hk103 : ∀ {v6 : Int32} {v7 : Int32} {u2 : Int64} {u4 : Int64}, k103 σ v6 v7 u2 u4 = some o → zz p l e ({ frames := 12, cells := 0, slots := 0, locals := 504 } : Room) s m args below meth c A (gw D dA A σ ob ar) 0 0 (MQ below (va_Qi (fun r (_ : Unit) => r = o ∧ True) (fun _ t => gw D dA A σ ob ar t.heap) A) args s (0) (0) A) 103 [(0, .ref ob), (1, .ref (ar 2)), (6, .int (v6)), (7, .int (v7))] [(2, u2), (4, u4)] []) {v7 : Int32} {u2 : Int64} {u4 : Int64} {s0 : Int32} (h : fl_isWhole_173 k103 σ v7 u2 u4 s0 = some o) : zz p l e ({ frames := 12, cells := 0, slots := 0, locals := 504 } : Room) s m args below meth c A (gw D dA A σ ob ar) 0 0 (MQ below (va_Qi (fun r (_ : Unit) => r = o ∧ True) (fun _ t => gw D dA A σ ob ar t.heap) A) args s (0) (0) A) 173 [(0, .ref ob), (1, .ref (ar 2)), (7, .int (v7))] [(2, u2), (4, u4)] [.int (s0)] := by
  unfold fl_isWhole_173 at h
  refine z_istore (lo' := [(6, .int (s0)), (0, .ref ob), (1, .ref (ar 2)), (7, .int (v7))]) X dL_isWhole_173 (by rw [hml]; decide) rfl rfl ?_
  obtain ⟨x1, ex1, h⟩ := zb h
  refine z_iinc (v := x1) (lo' := [(7, .int (x1)), (6, .int (s0)), (0, .ref ob), (1, .ref (ar 2))]) X dL_isWhole_175 rfl ex1 (by rw [hml]; decide) rfl rfl ?_
  refine z_goto (tgt := 103) X dL_isWhole_178 (by decide) ?_
  refine zz.pick (lo' := [(0, .ref ob), (1, .ref (ar 2)), (6, .int (s0)), (7, .int (x1))]) [0, 1, 6, 7] rfl ?_
  exact hk103  h
def fl_isWhole_172 (k103 : GS → Int32 → Int32 → Int64 → Int64 → Option (Int32)) (σ : GS) (v7 : Int32) (u2 : Int64) (u4 : Int64) : Option (Int32) := fl_isWhole_173 k103 σ v7 (u2) (u4) 0
set_option maxRecDepth 100000 in
set_option maxHeartbeats 4000000 in
theorem bl_isWhole_172 {p : Program} {l : Launch} {e : Env} {s : State} {m : MethodId} {args : Array Value} {below : List Frame} {meth : Method} {c : Code} {D : va_G} {dA : Nat → ClassId} {A : Nat → Prop} {ar : Nat → Nat} {ob b Ls : Nat} {sc : Nat → Int32} {σ : GS} {o : Int32} (X : zc p l s m args meth c cL_isWhole RL D dA A) (Y : zY s A b Ls sc) (hml : c.maxLocals = 8) (hr : meth.sig.returnType = (some .boolean)) {k103 : GS → Int32 → Int32 → Int64 → Int64 → Option (Int32)} (hk103 : ∀ {v6 : Int32} {v7 : Int32} {u2 : Int64} {u4 : Int64}, k103 σ v6 v7 u2 u4 = some o → zz p l e ({ frames := 12, cells := 0, slots := 0, locals := 504 } : Room) s m args below meth c A (gw D dA A σ ob ar) 0 0 (MQ below (va_Qi (fun r (_ : Unit) => r = o ∧ True) (fun _ t => gw D dA A σ ob ar t.heap) A) args s (0) (0) A) 103 [(0, .ref ob), (1, .ref (ar 2)), (6, .int (v6)), (7, .int (v7))] [(2, u2), (4, u4)] []) {v7 : Int32} {u2 : Int64} {u4 : Int64} (h : fl_isWhole_172 k103 σ v7 u2 u4 = some o) : zz p l e ({ frames := 12, cells := 0, slots := 0, locals := 504 } : Room) s m args below meth c A (gw D dA A σ ob ar) 0 0 (MQ below (va_Qi (fun r (_ : Unit) => r = o ∧ True) (fun _ t => gw D dA A σ ob ar t.heap) A) args s (0) (0) A) 172 [(0, .ref ob), (1, .ref (ar 2)), (7, .int (v7))] [(2, u2), (4, u4)] [] := by
  unfold fl_isWhole_172 at h
  refine z_iconst (v := 0) X dL_isWhole_172 (by decide) ?_
  refine zz.pick (lo' := [(0, .ref ob), (1, .ref (ar 2)), (7, .int (v7))]) [0, 1, 7] rfl ?_
  exact bl_isWhole_173 X Y hml hr hk103 h
def fl_isWhole_103 : Nat → GS → Int32 → Int32 → Int64 → Int64 → Option (Int32)
  | 0, _, _, _, _, _ => none
  | n + 1, σ, v6, v7, u2, u4 => (if (σ.2 2 (2).toNatClampNeg) ≤ v7 then fl_isWhole_184 FU σ v6 0 (u2) (u4)
  else (aq_charged σ.1 (v7)).bind fun o1 => (some ((u4 - (o1 : Int32).toInt64))).bind fun x2 => (if v6 = 0 then fl_isWhole_172 (fl_isWhole_103 n) σ v7 (u2) (x2)
  else (aq_charged σ.1 (v7)).bind fun o3 => (if o3 < 0 then fl_isWhole_172 (fl_isWhole_103 n) σ v7 (u2) (x2)
  else (aq_covered σ.1 (v7)).bind fun o4 => (if o4 < 0 then fl_isWhole_172 (fl_isWhole_103 n) σ v7 (u2) (x2)
  else (aq_ratedByEvents σ.1 (v7)).bind fun o5 => (aq_charged σ.1 (v7)).bind fun o6 => (aq_covered σ.1 (v7)).bind fun o7 => (if o5 = (o6 + o7) then fl_isWhole_173 (fl_isWhole_103 n) σ v7 (u2) (x2) 1
  else fl_isWhole_172 (fl_isWhole_103 n) σ v7 (u2) (x2))))))
set_option maxRecDepth 100000 in
set_option maxHeartbeats 4000000 in
theorem bl_isWhole_103 {p : Program} {l : Launch} {e : Env} {s : State} {m : MethodId} {args : Array Value} {below : List Frame} {meth : Method} {c : Code} {D : va_G} {dA : Nat → ClassId} {A : Nat → Prop} {ar : Nat → Nat} {ob b Ls : Nat} {sc : Nat → Int32} {σ : GS} {o : Int32} (X : zc p l s m args meth c cL_isWhole RL D dA A) (Y : zY s A b Ls sc) (hml : c.maxLocals = 8) (hr : meth.sig.returnType = (some .boolean)) : ∀ (n : Nat) {v6 : Int32} {v7 : Int32} {u2 : Int64} {u4 : Int64}, fl_isWhole_103 n σ v6 v7 u2 u4 = some o → zz p l e ({ frames := 12, cells := 0, slots := 0, locals := 504 } : Room) s m args below meth c A (gw D dA A σ ob ar) 0 0 (MQ below (va_Qi (fun r (_ : Unit) => r = o ∧ True) (fun _ t => gw D dA A σ ob ar t.heap) A) args s (0) (0) A) 103 [(0, .ref ob), (1, .ref (ar 2)), (6, .int (v6)), (7, .int (v7))] [(2, u2), (4, u4)] [] := by
  intro n
  induction n with
  | zero => intro v6 v7 u2 u4 h; exact (nomatch (show none = some o from h))
  | succ n ih =>
    intro v6 v7 u2 u4 h
    rw [fl_isWhole_103] at h
    refine z_iload X dL_isWhole_103 rfl ?_
    refine z_aload_n X dL_isWhole_105 rfl rfl ?_
    refine z_iconst (v := 2) X dL_isWhole_106 (by decide) ?_
    refine l_ald X 2 rfl (by decide) dL_isWhole_107 ?_
    refine z_icmp_ge (tgt := 181) X dL_isWhole_108 (by decide) (fun q => ?_) (fun q => ?_)
    · have h := zp q h
      refine z_iconst (v := 0) X dL_isWhole_181 (by decide) ?_
      refine z_istore (lo' := [(7, .int (0)), (0, .ref ob), (1, .ref (ar 2)), (6, .int (v6))]) X dL_isWhole_182 (by rw [hml]; decide) rfl rfl ?_
      refine zz.pick (lo' := [(0, .ref ob), (1, .ref (ar 2)), (6, .int (v6)), (7, .int (0))]) [0, 1, 6, 7] rfl ?_
      exact bl_isWhole_184 X Y hml hr FU h
    · have h := zn q h
      refine z_lload X dL_isWhole_111 rfl ?_
      refine z_aload_n X dL_isWhole_113 rfl rfl ?_
      refine z_iload X dL_isWhole_114 rfl ?_
      obtain ⟨o1, co1, h⟩ := zb2 h
      refine l_q (As := [.int (v7)]) (rest := [.long (u4)]) (nA := 1) (mc := 0) (ms := 0) (rm := ({ frames := 10, cells := 0, slots := 0, locals := 420 } : Room)) (r0 := o1) X (fun _ h11 => cz_charged l X.2.2.2.2.2.2.2.2 X.2.2.2.2.2.2.1 h11 (fun _ z => nomatch z) (qo_eq co1)) n_952 n_953 n_954 n_1 n_955 nh_yX11_charged ⟨rfl, rfl, Nat.le_of_ble_eq_true rfl, Nat.le_of_ble_eq_true rfl⟩ rfl rfl (Nat.le_of_ble_eq_true rfl) dL_isWhole_116 ⟨by show _ ≤ 0; omega, by show _ ≤ 0; omega⟩ ?_
      refine z_i2l X dL_isWhole_119 ?_
      refine z_lsub X dL_isWhole_120 ?_
      obtain ⟨x2, ex2, h⟩ := zb h
      rw [ex2]
      refine z_lstore X dL_isWhole_121 (by rw [hml]; decide) (lo' := [(0, .ref ob), (1, .ref (ar 2)), (6, .int (v6)), (7, .int (v7))]) (ll' := [(4, x2), (2, u2)]) rfl rfl ?_
      refine z_iload X dL_isWhole_123 rfl ?_
      refine z_if_eq (tgt := 172) X dL_isWhole_125 (by decide) (fun q => ?_) (fun q => ?_)
      · have h := zp q h
        refine zz.pick (lo' := [(0, .ref ob), (1, .ref (ar 2)), (7, .int (v7))]) [0, 1, 7] rfl ?_
        exact bl_isWhole_172 X Y hml hr ih h
      · have h := zn q h
        refine z_aload_n X dL_isWhole_128 rfl rfl ?_
        refine z_iload X dL_isWhole_129 rfl ?_
        obtain ⟨o3, co3, h⟩ := zb2 h
        refine l_q (As := [.int (v7)]) (rest := []) (nA := 1) (mc := 0) (ms := 0) (rm := ({ frames := 10, cells := 0, slots := 0, locals := 420 } : Room)) (r0 := o3) X (fun _ h11 => cz_charged l X.2.2.2.2.2.2.2.2 X.2.2.2.2.2.2.1 h11 (fun _ z => nomatch z) (qo_eq co3)) n_952 n_953 n_954 n_1 n_955 nh_yX11_charged ⟨rfl, rfl, Nat.le_of_ble_eq_true rfl, Nat.le_of_ble_eq_true rfl⟩ rfl rfl (Nat.le_of_ble_eq_true rfl) dL_isWhole_131 ⟨by show _ ≤ 0; omega, by show _ ≤ 0; omega⟩ ?_
        refine z_if_lt (tgt := 172) X dL_isWhole_134 (by decide) (fun q => ?_) (fun q => ?_)
        · have h := zp q h
          refine zz.pick (lo' := [(0, .ref ob), (1, .ref (ar 2)), (7, .int (v7))]) [0, 1, 7] rfl ?_
          exact bl_isWhole_172 X Y hml hr ih h
        · have h := zn q h
          refine z_aload_n X dL_isWhole_137 rfl rfl ?_
          refine z_iload X dL_isWhole_138 rfl ?_
          obtain ⟨o4, co4, h⟩ := zb2 h
          refine l_q (As := [.int (v7)]) (rest := []) (nA := 1) (mc := 0) (ms := 0) (rm := ({ frames := 10, cells := 0, slots := 0, locals := 420 } : Room)) (r0 := o4) X (fun _ h11 => cz_covered l X.2.2.2.2.2.2.2.2 X.2.2.2.2.2.2.1 h11 (fun _ z => nomatch z) (qo_eq co4)) n_956 n_957 n_958 n_1 n_959 nh_yX11_covered ⟨rfl, rfl, Nat.le_of_ble_eq_true rfl, Nat.le_of_ble_eq_true rfl⟩ rfl rfl (Nat.le_of_ble_eq_true rfl) dL_isWhole_140 ⟨by show _ ≤ 0; omega, by show _ ≤ 0; omega⟩ ?_
          refine z_if_lt (tgt := 172) X dL_isWhole_143 (by decide) (fun q => ?_) (fun q => ?_)
          · have h := zp q h
            refine zz.pick (lo' := [(0, .ref ob), (1, .ref (ar 2)), (7, .int (v7))]) [0, 1, 7] rfl ?_
            exact bl_isWhole_172 X Y hml hr ih h
          · have h := zn q h
            refine z_aload_n X dL_isWhole_146 rfl rfl ?_
            refine z_iload X dL_isWhole_147 rfl ?_
            obtain ⟨o5, co5, h⟩ := zb2 h
            refine l_q (As := [.int (v7)]) (rest := []) (nA := 1) (mc := 0) (ms := 0) (rm := ({ frames := 11, cells := 0, slots := 0, locals := 462 } : Room)) (r0 := o5) X (fun _ h11 => cz_ratedByEvents l X.2.2.2.2.2.2.2.2 X.2.2.2.2.2.2.1 h11 (fun _ z => nomatch z) (qo_eq co5)) n_921 n_922 n_923 n_1 n_924 nh_yX11_ratedByEvents ⟨rfl, rfl, Nat.le_of_ble_eq_true rfl, Nat.le_of_ble_eq_true rfl⟩ rfl rfl (Nat.le_of_ble_eq_true rfl) dL_isWhole_149 ⟨by show _ ≤ 0; omega, by show _ ≤ 0; omega⟩ ?_
            refine z_aload_n X dL_isWhole_152 rfl rfl ?_
            refine z_iload X dL_isWhole_153 rfl ?_
            obtain ⟨o6, co6, h⟩ := zb2 h
            refine l_q (As := [.int (v7)]) (rest := [.int (o5)]) (nA := 1) (mc := 0) (ms := 0) (rm := ({ frames := 10, cells := 0, slots := 0, locals := 420 } : Room)) (r0 := o6) X (fun _ h11 => cz_charged l X.2.2.2.2.2.2.2.2 X.2.2.2.2.2.2.1 h11 (fun _ z => nomatch z) (qo_eq co6)) n_952 n_953 n_954 n_1 n_955 nh_yX11_charged ⟨rfl, rfl, Nat.le_of_ble_eq_true rfl, Nat.le_of_ble_eq_true rfl⟩ rfl rfl (Nat.le_of_ble_eq_true rfl) dL_isWhole_155 ⟨by show _ ≤ 0; omega, by show _ ≤ 0; omega⟩ ?_
            refine z_aload_n X dL_isWhole_158 rfl rfl ?_
            refine z_iload X dL_isWhole_159 rfl ?_
            obtain ⟨o7, co7, h⟩ := zb2 h
            refine l_q (As := [.int (v7)]) (rest := [.int (o6), .int (o5)]) (nA := 1) (mc := 0) (ms := 0) (rm := ({ frames := 10, cells := 0, slots := 0, locals := 420 } : Room)) (r0 := o7) X (fun _ h11 => cz_covered l X.2.2.2.2.2.2.2.2 X.2.2.2.2.2.2.1 h11 (fun _ z => nomatch z) (qo_eq co7)) n_956 n_957 n_958 n_1 n_959 nh_yX11_covered ⟨rfl, rfl, Nat.le_of_ble_eq_true rfl, Nat.le_of_ble_eq_true rfl⟩ rfl rfl (Nat.le_of_ble_eq_true rfl) dL_isWhole_161 ⟨by show _ ≤ 0; omega, by show _ ≤ 0; omega⟩ ?_
            refine z_iadd X dL_isWhole_164 ?_
            refine z_icmp_ne (tgt := 172) X dL_isWhole_165 (by decide) (fun q => ?_) (fun q => ?_)
            · have h := zp q h
              refine z_iconst (v := 1) X dL_isWhole_168 (by decide) ?_
              refine z_goto (tgt := 173) X dL_isWhole_169 (by decide) ?_
              refine zz.pick (lo' := [(0, .ref ob), (1, .ref (ar 2)), (7, .int (v7))]) [0, 1, 7] rfl ?_
              exact bl_isWhole_173 X Y hml hr ih h
            · have h := zn q h
              refine zz.pick (lo' := [(0, .ref ob), (1, .ref (ar 2)), (7, .int (v7))]) [0, 1, 7] rfl ?_
              exact bl_isWhole_172 X Y hml hr ih h
def fl_isWhole_92 (k11 : GS → Int32 → Int32 → Int64 → Int64 → Option (Int32)) (σ : GS) (v7 : Int32) (u2 : Int64) (u4 : Int64) (s0 : Int32) : Option (Int32) := (some (v7 + 1)).bind fun x1 => k11 σ s0 x1 (u2) (u4)
set_option maxRecDepth 100000 in
set_option maxHeartbeats 4000000 in
theorem bl_isWhole_92 {p : Program} {l : Launch} {e : Env} {s : State} {m : MethodId} {args : Array Value} {below : List Frame} {meth : Method} {c : Code} {D : va_G} {dA : Nat → ClassId} {A : Nat → Prop} {ar : Nat → Nat} {ob b Ls : Nat} {sc : Nat → Int32} {σ : GS} {o : Int32} (X : zc p l s m args meth c cL_isWhole RL D dA A) (Y : zY s A b Ls sc) (hml : c.maxLocals = 8) (hr : meth.sig.returnType = (some .boolean)) {k11 : GS → Int32 → Int32 → Int64 → Int64 → Option (Int32)} (hk11 : ∀ {v6 : Int32} {v7 : Int32} {u2 : Int64} {u4 : Int64}, k11 σ v6 v7 u2 u4 = some o → zz p l e ({ frames := 12, cells := 0, slots := 0, locals := 504 } : Room) s m args below meth c A (gw D dA A σ ob ar) 0 0 (MQ below (va_Qi (fun r (_ : Unit) => r = o ∧ True) (fun _ t => gw D dA A σ ob ar t.heap) A) args s (0) (0) A) 11 [(0, .ref ob), (1, .ref (ar 2)), (6, .int (v6)), (7, .int (v7))] [(2, u2), (4, u4)] []) {v7 : Int32} {u2 : Int64} {u4 : Int64} {s0 : Int32} (h : fl_isWhole_92 k11 σ v7 u2 u4 s0 = some o) : zz p l e ({ frames := 12, cells := 0, slots := 0, locals := 504 } : Room) s m args below meth c A (gw D dA A σ ob ar) 0 0 (MQ below (va_Qi (fun r (_ : Unit) => r = o ∧ True) (fun _ t => gw D dA A σ ob ar t.heap) A) args s (0) (0) A) 92 [(0, .ref ob), (1, .ref (ar 2)), (7, .int (v7))] [(2, u2), (4, u4)] [.int (s0)] := by
  unfold fl_isWhole_92 at h
  refine z_istore (lo' := [(6, .int (s0)), (0, .ref ob), (1, .ref (ar 2)), (7, .int (v7))]) X dL_isWhole_92 (by rw [hml]; decide) rfl rfl ?_
  obtain ⟨x1, ex1, h⟩ := zb h
  refine z_iinc (v := x1) (lo' := [(7, .int (x1)), (6, .int (s0)), (0, .ref ob), (1, .ref (ar 2))]) X dL_isWhole_94 rfl ex1 (by rw [hml]; decide) rfl rfl ?_
  refine z_goto (tgt := 11) X dL_isWhole_97 (by decide) ?_
  refine zz.pick (lo' := [(0, .ref ob), (1, .ref (ar 2)), (6, .int (s0)), (7, .int (x1))]) [0, 1, 6, 7] rfl ?_
  exact hk11  h
def fl_isWhole_91 (k11 : GS → Int32 → Int32 → Int64 → Int64 → Option (Int32)) (σ : GS) (v7 : Int32) (u2 : Int64) (u4 : Int64) : Option (Int32) := fl_isWhole_92 k11 σ v7 (u2) (u4) 0
set_option maxRecDepth 100000 in
set_option maxHeartbeats 4000000 in
theorem bl_isWhole_91 {p : Program} {l : Launch} {e : Env} {s : State} {m : MethodId} {args : Array Value} {below : List Frame} {meth : Method} {c : Code} {D : va_G} {dA : Nat → ClassId} {A : Nat → Prop} {ar : Nat → Nat} {ob b Ls : Nat} {sc : Nat → Int32} {σ : GS} {o : Int32} (X : zc p l s m args meth c cL_isWhole RL D dA A) (Y : zY s A b Ls sc) (hml : c.maxLocals = 8) (hr : meth.sig.returnType = (some .boolean)) {k11 : GS → Int32 → Int32 → Int64 → Int64 → Option (Int32)} (hk11 : ∀ {v6 : Int32} {v7 : Int32} {u2 : Int64} {u4 : Int64}, k11 σ v6 v7 u2 u4 = some o → zz p l e ({ frames := 12, cells := 0, slots := 0, locals := 504 } : Room) s m args below meth c A (gw D dA A σ ob ar) 0 0 (MQ below (va_Qi (fun r (_ : Unit) => r = o ∧ True) (fun _ t => gw D dA A σ ob ar t.heap) A) args s (0) (0) A) 11 [(0, .ref ob), (1, .ref (ar 2)), (6, .int (v6)), (7, .int (v7))] [(2, u2), (4, u4)] []) {v7 : Int32} {u2 : Int64} {u4 : Int64} (h : fl_isWhole_91 k11 σ v7 u2 u4 = some o) : zz p l e ({ frames := 12, cells := 0, slots := 0, locals := 504 } : Room) s m args below meth c A (gw D dA A σ ob ar) 0 0 (MQ below (va_Qi (fun r (_ : Unit) => r = o ∧ True) (fun _ t => gw D dA A σ ob ar t.heap) A) args s (0) (0) A) 91 [(0, .ref ob), (1, .ref (ar 2)), (7, .int (v7))] [(2, u2), (4, u4)] [] := by
  unfold fl_isWhole_91 at h
  refine z_iconst (v := 0) X dL_isWhole_91 (by decide) ?_
  refine zz.pick (lo' := [(0, .ref ob), (1, .ref (ar 2)), (7, .int (v7))]) [0, 1, 7] rfl ?_
  exact bl_isWhole_92 X Y hml hr hk11 h
def fl_isWhole_11 : Nat → GS → Int32 → Int32 → Int64 → Int64 → Option (Int32)
  | 0, _, _, _, _, _ => none
  | n + 1, σ, v6, v7, u2, u4 => (if 4 ≤ v7 then fl_isWhole_103 FU σ v6 0 (u2) (u4)
  else (aq_free σ.1 (v7)).bind fun o1 => (aq_aside σ.1 (v7)).bind fun o2 => (aq_spent σ.1 (v7)).bind fun o3 => (some ((u2 + (((o1 : Int32).toInt64 + (o2 : Int32).toInt64) + (o3 : Int32).toInt64)))).bind fun x4 => (aq_spent σ.1 (v7)).bind fun o5 => (some ((u4 + (o5 : Int32).toInt64))).bind fun x6 => (if v6 = 0 then fl_isWhole_91 (fl_isWhole_11 n) σ v7 (x4) (x6)
  else (aq_free σ.1 (v7)).bind fun o7 => (if o7 < 0 then fl_isWhole_91 (fl_isWhole_11 n) σ v7 (x4) (x6)
  else (aq_aside σ.1 (v7)).bind fun o8 => (if o8 < 0 then fl_isWhole_91 (fl_isWhole_11 n) σ v7 (x4) (x6)
  else (aq_spent σ.1 (v7)).bind fun o9 => (if o9 < 0 then fl_isWhole_91 (fl_isWhole_11 n) σ v7 (x4) (x6)
  else fl_isWhole_92 (fl_isWhole_11 n) σ v7 (x4) (x6) 1)))))
set_option maxRecDepth 100000 in
set_option maxHeartbeats 4000000 in
theorem bl_isWhole_11 {p : Program} {l : Launch} {e : Env} {s : State} {m : MethodId} {args : Array Value} {below : List Frame} {meth : Method} {c : Code} {D : va_G} {dA : Nat → ClassId} {A : Nat → Prop} {ar : Nat → Nat} {ob b Ls : Nat} {sc : Nat → Int32} {σ : GS} {o : Int32} (X : zc p l s m args meth c cL_isWhole RL D dA A) (Y : zY s A b Ls sc) (hml : c.maxLocals = 8) (hr : meth.sig.returnType = (some .boolean)) : ∀ (n : Nat) {v6 : Int32} {v7 : Int32} {u2 : Int64} {u4 : Int64}, fl_isWhole_11 n σ v6 v7 u2 u4 = some o → zz p l e ({ frames := 12, cells := 0, slots := 0, locals := 504 } : Room) s m args below meth c A (gw D dA A σ ob ar) 0 0 (MQ below (va_Qi (fun r (_ : Unit) => r = o ∧ True) (fun _ t => gw D dA A σ ob ar t.heap) A) args s (0) (0) A) 11 [(0, .ref ob), (1, .ref (ar 2)), (6, .int (v6)), (7, .int (v7))] [(2, u2), (4, u4)] [] := by
  intro n
  induction n with
  | zero => intro v6 v7 u2 u4 h; exact (nomatch (show none = some o from h))
  | succ n ih =>
    intro v6 v7 u2 u4 h
    rw [fl_isWhole_11] at h
    refine z_iload X dL_isWhole_11 rfl ?_
    refine z_iconst (v := 4) X dL_isWhole_13 (by decide) ?_
    refine z_icmp_ge (tgt := 100) X dL_isWhole_14 (by decide) (fun q => ?_) (fun q => ?_)
    · have h := zp q h
      refine z_iconst (v := 0) X dL_isWhole_100 (by decide) ?_
      refine z_istore (lo' := [(7, .int (0)), (0, .ref ob), (1, .ref (ar 2)), (6, .int (v6))]) X dL_isWhole_101 (by rw [hml]; decide) rfl rfl ?_
      refine zz.pick (lo' := [(0, .ref ob), (1, .ref (ar 2)), (6, .int (v6)), (7, .int (0))]) [0, 1, 6, 7] rfl ?_
      exact bl_isWhole_103 X Y hml hr FU h
    · have h := zn q h
      refine z_lload_n X dL_isWhole_17 rfl rfl ?_
      refine z_aload_n X dL_isWhole_18 rfl rfl ?_
      refine z_iload X dL_isWhole_19 rfl ?_
      obtain ⟨o1, co1, h⟩ := zb2 h
      refine l_q (As := [.int (v7)]) (rest := [.long (u2)]) (nA := 1) (mc := 0) (ms := 0) (rm := ({ frames := 7, cells := 0, slots := 0, locals := 294 } : Room)) (r0 := o1) X (fun _ h11 => cz_free l X.2.2.2.2.2.2.2.2 X.2.2.2.2.2.2.1 h11 (fun _ z => nomatch z) (qo_eq co1)) n_801 n_802 n_803 n_1 n_804 nh_yX11_free ⟨rfl, rfl, Nat.le_of_ble_eq_true rfl, Nat.le_of_ble_eq_true rfl⟩ rfl rfl (Nat.le_of_ble_eq_true rfl) dL_isWhole_21 ⟨by show _ ≤ 0; omega, by show _ ≤ 0; omega⟩ ?_
      refine z_i2l X dL_isWhole_24 ?_
      refine z_aload_n X dL_isWhole_25 rfl rfl ?_
      refine z_iload X dL_isWhole_26 rfl ?_
      obtain ⟨o2, co2, h⟩ := zb2 h
      refine l_q (As := [.int (v7)]) (rest := [.long ((o1 : Int32).toInt64), .long (u2)]) (nA := 1) (mc := 0) (ms := 0) (rm := ({ frames := 7, cells := 0, slots := 0, locals := 294 } : Room)) (r0 := o2) X (fun _ h11 => cz_aside l X.2.2.2.2.2.2.2.2 X.2.2.2.2.2.2.1 h11 (fun _ z => nomatch z) (qo_eq co2)) n_944 n_945 n_946 n_1 n_947 nh_yX11_aside ⟨rfl, rfl, Nat.le_of_ble_eq_true rfl, Nat.le_of_ble_eq_true rfl⟩ rfl rfl (Nat.le_of_ble_eq_true rfl) dL_isWhole_28 ⟨by show _ ≤ 0; omega, by show _ ≤ 0; omega⟩ ?_
      refine z_i2l X dL_isWhole_31 ?_
      refine z_ladd X dL_isWhole_32 ?_
      refine z_aload_n X dL_isWhole_33 rfl rfl ?_
      refine z_iload X dL_isWhole_34 rfl ?_
      obtain ⟨o3, co3, h⟩ := zb2 h
      refine l_q (As := [.int (v7)]) (rest := [.long (((o1 : Int32).toInt64 + (o2 : Int32).toInt64)), .long (u2)]) (nA := 1) (mc := 0) (ms := 0) (rm := ({ frames := 7, cells := 0, slots := 0, locals := 294 } : Room)) (r0 := o3) X (fun _ h11 => cz_spent l X.2.2.2.2.2.2.2.2 X.2.2.2.2.2.2.1 h11 (fun _ z => nomatch z) (qo_eq co3)) n_948 n_949 n_950 n_1 n_951 nh_yX11_spent ⟨rfl, rfl, Nat.le_of_ble_eq_true rfl, Nat.le_of_ble_eq_true rfl⟩ rfl rfl (Nat.le_of_ble_eq_true rfl) dL_isWhole_36 ⟨by show _ ≤ 0; omega, by show _ ≤ 0; omega⟩ ?_
      refine z_i2l X dL_isWhole_39 ?_
      refine z_ladd X dL_isWhole_40 ?_
      refine z_ladd X dL_isWhole_41 ?_
      obtain ⟨x4, ex4, h⟩ := zb h
      rw [ex4]
      refine z_lstore_n X dL_isWhole_42 rfl (by rw [hml]; decide) (lo' := [(0, .ref ob), (1, .ref (ar 2)), (6, .int (v6)), (7, .int (v7))]) (ll' := [(2, x4), (4, u4)]) rfl rfl ?_
      refine z_lload X dL_isWhole_43 rfl ?_
      refine z_aload_n X dL_isWhole_45 rfl rfl ?_
      refine z_iload X dL_isWhole_46 rfl ?_
      obtain ⟨o5, co5, h⟩ := zb2 h
      refine l_q (As := [.int (v7)]) (rest := [.long (u4)]) (nA := 1) (mc := 0) (ms := 0) (rm := ({ frames := 7, cells := 0, slots := 0, locals := 294 } : Room)) (r0 := o5) X (fun _ h11 => cz_spent l X.2.2.2.2.2.2.2.2 X.2.2.2.2.2.2.1 h11 (fun _ z => nomatch z) (qo_eq co5)) n_948 n_949 n_950 n_1 n_951 nh_yX11_spent ⟨rfl, rfl, Nat.le_of_ble_eq_true rfl, Nat.le_of_ble_eq_true rfl⟩ rfl rfl (Nat.le_of_ble_eq_true rfl) dL_isWhole_48 ⟨by show _ ≤ 0; omega, by show _ ≤ 0; omega⟩ ?_
      refine z_i2l X dL_isWhole_51 ?_
      refine z_ladd X dL_isWhole_52 ?_
      obtain ⟨x6, ex6, h⟩ := zb h
      rw [ex6]
      refine z_lstore X dL_isWhole_53 (by rw [hml]; decide) (lo' := [(0, .ref ob), (1, .ref (ar 2)), (6, .int (v6)), (7, .int (v7))]) (ll' := [(4, x6), (2, x4)]) rfl rfl ?_
      refine z_iload X dL_isWhole_55 rfl ?_
      refine z_if_eq (tgt := 91) X dL_isWhole_57 (by decide) (fun q => ?_) (fun q => ?_)
      · have h := zp q h
        refine zz.pick (lo' := [(0, .ref ob), (1, .ref (ar 2)), (7, .int (v7))]) [0, 1, 7] rfl ?_
        exact bl_isWhole_91 X Y hml hr ih h
      · have h := zn q h
        refine z_aload_n X dL_isWhole_60 rfl rfl ?_
        refine z_iload X dL_isWhole_61 rfl ?_
        obtain ⟨o7, co7, h⟩ := zb2 h
        refine l_q (As := [.int (v7)]) (rest := []) (nA := 1) (mc := 0) (ms := 0) (rm := ({ frames := 7, cells := 0, slots := 0, locals := 294 } : Room)) (r0 := o7) X (fun _ h11 => cz_free l X.2.2.2.2.2.2.2.2 X.2.2.2.2.2.2.1 h11 (fun _ z => nomatch z) (qo_eq co7)) n_801 n_802 n_803 n_1 n_804 nh_yX11_free ⟨rfl, rfl, Nat.le_of_ble_eq_true rfl, Nat.le_of_ble_eq_true rfl⟩ rfl rfl (Nat.le_of_ble_eq_true rfl) dL_isWhole_63 ⟨by show _ ≤ 0; omega, by show _ ≤ 0; omega⟩ ?_
        refine z_if_lt (tgt := 91) X dL_isWhole_66 (by decide) (fun q => ?_) (fun q => ?_)
        · have h := zp q h
          refine zz.pick (lo' := [(0, .ref ob), (1, .ref (ar 2)), (7, .int (v7))]) [0, 1, 7] rfl ?_
          exact bl_isWhole_91 X Y hml hr ih h
        · have h := zn q h
          refine z_aload_n X dL_isWhole_69 rfl rfl ?_
          refine z_iload X dL_isWhole_70 rfl ?_
          obtain ⟨o8, co8, h⟩ := zb2 h
          refine l_q (As := [.int (v7)]) (rest := []) (nA := 1) (mc := 0) (ms := 0) (rm := ({ frames := 7, cells := 0, slots := 0, locals := 294 } : Room)) (r0 := o8) X (fun _ h11 => cz_aside l X.2.2.2.2.2.2.2.2 X.2.2.2.2.2.2.1 h11 (fun _ z => nomatch z) (qo_eq co8)) n_944 n_945 n_946 n_1 n_947 nh_yX11_aside ⟨rfl, rfl, Nat.le_of_ble_eq_true rfl, Nat.le_of_ble_eq_true rfl⟩ rfl rfl (Nat.le_of_ble_eq_true rfl) dL_isWhole_72 ⟨by show _ ≤ 0; omega, by show _ ≤ 0; omega⟩ ?_
          refine z_if_lt (tgt := 91) X dL_isWhole_75 (by decide) (fun q => ?_) (fun q => ?_)
          · have h := zp q h
            refine zz.pick (lo' := [(0, .ref ob), (1, .ref (ar 2)), (7, .int (v7))]) [0, 1, 7] rfl ?_
            exact bl_isWhole_91 X Y hml hr ih h
          · have h := zn q h
            refine z_aload_n X dL_isWhole_78 rfl rfl ?_
            refine z_iload X dL_isWhole_79 rfl ?_
            obtain ⟨o9, co9, h⟩ := zb2 h
            refine l_q (As := [.int (v7)]) (rest := []) (nA := 1) (mc := 0) (ms := 0) (rm := ({ frames := 7, cells := 0, slots := 0, locals := 294 } : Room)) (r0 := o9) X (fun _ h11 => cz_spent l X.2.2.2.2.2.2.2.2 X.2.2.2.2.2.2.1 h11 (fun _ z => nomatch z) (qo_eq co9)) n_948 n_949 n_950 n_1 n_951 nh_yX11_spent ⟨rfl, rfl, Nat.le_of_ble_eq_true rfl, Nat.le_of_ble_eq_true rfl⟩ rfl rfl (Nat.le_of_ble_eq_true rfl) dL_isWhole_81 ⟨by show _ ≤ 0; omega, by show _ ≤ 0; omega⟩ ?_
            refine z_if_lt (tgt := 91) X dL_isWhole_84 (by decide) (fun q => ?_) (fun q => ?_)
            · have h := zp q h
              refine zz.pick (lo' := [(0, .ref ob), (1, .ref (ar 2)), (7, .int (v7))]) [0, 1, 7] rfl ?_
              exact bl_isWhole_91 X Y hml hr ih h
            · have h := zn q h
              refine z_iconst (v := 1) X dL_isWhole_87 (by decide) ?_
              refine z_goto (tgt := 92) X dL_isWhole_88 (by decide) ?_
              refine zz.pick (lo' := [(0, .ref ob), (1, .ref (ar 2)), (7, .int (v7))]) [0, 1, 7] rfl ?_
              exact bl_isWhole_92 X Y hml hr ih h
def fl_isWhole (σ : GS)  : Option (Int32) := fl_isWhole_11 FU σ 1 0 (0) (0)
set_option maxRecDepth 100000 in
set_option maxHeartbeats 4000000 in
theorem bl_isWhole {p : Program} {l : Launch} {e : Env} {s : State} {m : MethodId} {args : Array Value} {below : List Frame} {meth : Method} {c : Code} {D : va_G} {dA : Nat → ClassId} {A : Nat → Prop} {ar : Nat → Nat} {ob b Ls : Nat} {sc : Nat → Int32} {σ : GS} {o : Int32} (X : zc p l s m args meth c cL_isWhole RL D dA A) (Y : zY s A b Ls sc) (hml : c.maxLocals = 8) (hr : meth.sig.returnType = (some .boolean))  (h : fl_isWhole σ = some o) : zz p l e ({ frames := 12, cells := 0, slots := 0, locals := 504 } : Room) s m args below meth c A (gw D dA A σ ob ar) 0 0 (MQ below (va_Qi (fun r (_ : Unit) => r = o ∧ True) (fun _ t => gw D dA A σ ob ar t.heap) A) args s (0) (0) A) 0 [(0, .ref ob), (1, .ref (ar 2))] [] [] := by
  unfold fl_isWhole at h
  refine z_lconst (v := 0) X dL_isWhole_0 (by decide) ?_
  refine z_lstore_n X dL_isWhole_1 rfl (by rw [hml]; decide) (lo' := [(0, .ref ob), (1, .ref (ar 2))]) (ll' := [(2, 0)]) rfl rfl ?_
  refine z_lconst (v := 0) X dL_isWhole_2 (by decide) ?_
  refine z_lstore X dL_isWhole_3 (by rw [hml]; decide) (lo' := [(0, .ref ob), (1, .ref (ar 2))]) (ll' := [(4, 0), (2, 0)]) rfl rfl ?_
  refine z_iconst (v := 1) X dL_isWhole_5 (by decide) ?_
  refine z_istore (lo' := [(6, .int (1)), (0, .ref ob), (1, .ref (ar 2))]) X dL_isWhole_6 (by rw [hml]; decide) rfl rfl ?_
  refine z_iconst (v := 0) X dL_isWhole_8 (by decide) ?_
  refine z_istore (lo' := [(7, .int (0)), (6, .int (1)), (0, .ref ob), (1, .ref (ar 2))]) X dL_isWhole_9 (by rw [hml]; decide) rfl rfl ?_
  refine zz.pick (lo' := [(0, .ref ob), (1, .ref (ar 2)), (6, .int (1)), (7, .int (0))]) [0, 1, 6, 7] rfl ?_
  exact bl_isWhole_11 X Y hml hr FU h
theorem ll_isWhole (l : Launch) {D : va_G} {dA : Nat → ClassId} {A : Nat → Prop} {n : Nat} {ar : Nat → Nat} {ob b Ls : Nat} {sc : Nat → Int32} (hst : l.stackTraces = false) (hA : ∀ q, n ≤ q → A q) (hbA : ¬ A b) {σ : GS}  {o : Int32} (h : fl_isWhole σ = some o) : Met l yL_isWhole (.code yL_isWhole cL_isWhole 8 (some .boolean) :: gT) ({ frames := 12, cells := 0, slots := 0, locals := 504 } : Room) (va_Pc [.ref ob, .ref (ar 2)] (zBL D dA A n b Ls sc (gw D dA A σ ob ar))) (va_Qi (fun r (_ : Unit) => r = o ∧ True) (fun _ t => gw D dA A σ ob ar t.heap) A) (0) (0) A :=
  z_metL (by decide) hA hbA hst (Nat.le_of_ble_eq_true rfl) rfl rfl (fun p e s m below meth c X Y hml hr => bl_isWhole X Y hml hr h)
-- areLegs(LMeshBiller;[I[I[I)Z
def fl_areLegs_486 (k374 : GS → Int32 → Int32 → Int64 → Option (GS × Int32)) (σ : GS) (v7 : Int32) (u4 : Int64) (s0 : Int32) : Option (GS × Int32) := (some (v7 + 1)).bind fun x1 => k374 σ s0 x1 (u4)
set_option maxRecDepth 100000 in
set_option maxHeartbeats 4000000 in
theorem bl_areLegs_486 {p : Program} {l : Launch} {e : Env} {s : State} {m : MethodId} {args : Array Value} {below : List Frame} {meth : Method} {c : Code} {D : va_G} {dA : Nat → ClassId} {A : Nat → Prop} {ar : Nat → Nat} {ob b Ls : Nat} {sc : Nat → Int32} {o : GS × Int32} (X : zc p l s m args meth c cL_areLegs RL D dA A) (Y : zY s A b Ls sc) (hml : c.maxLocals = 12) (hr : meth.sig.returnType = (some .boolean)) {k374 : GS → Int32 → Int32 → Int64 → Option (GS × Int32)} (hk374 : ∀ {σ : GS} {v6 : Int32} {v7 : Int32} {u4 : Int64}, k374 σ v6 v7 u4 = some o → zz p l e ({ frames := 12, cells := 0, slots := 0, locals := 504 } : Room) s m args below meth c A (gw D dA A σ ob ar) 0 0 (MQ below (va_Qi (fun r (_ : Unit) => r = o.2 ∧ True) (fun _ t => gw D dA A o.1 ob ar t.heap) A) args s (0) (0) A) 374 [(0, .ref ob), (6, .int (v6)), (7, .int (v7))] [(4, u4)] []) {σ : GS} {v7 : Int32} {u4 : Int64} {s0 : Int32} (h : fl_areLegs_486 k374 σ v7 u4 s0 = some o) : zz p l e ({ frames := 12, cells := 0, slots := 0, locals := 504 } : Room) s m args below meth c A (gw D dA A σ ob ar) 0 0 (MQ below (va_Qi (fun r (_ : Unit) => r = o.2 ∧ True) (fun _ t => gw D dA A o.1 ob ar t.heap) A) args s (0) (0) A) 486 [(0, .ref ob), (7, .int (v7))] [(4, u4)] [.int (s0)] := by
  unfold fl_areLegs_486 at h
  refine z_istore (lo' := [(6, .int (s0)), (0, .ref ob), (7, .int (v7))]) X dL_areLegs_486 (by rw [hml]; decide) rfl rfl ?_
  obtain ⟨x1, ex1, h⟩ := zb h
  refine z_iinc (v := x1) (lo' := [(7, .int (x1)), (6, .int (s0)), (0, .ref ob)]) X dL_areLegs_488 rfl ex1 (by rw [hml]; decide) rfl rfl ?_
  refine z_goto (tgt := 374) X dL_areLegs_491 (by decide) ?_
  refine zz.pick (lo' := [(0, .ref ob), (6, .int (s0)), (7, .int (x1))]) [0, 6, 7] rfl ?_
  exact hk374  h
def fl_areLegs_485 (k374 : GS → Int32 → Int32 → Int64 → Option (GS × Int32)) (σ : GS) (v7 : Int32) (u4 : Int64) : Option (GS × Int32) := fl_areLegs_486 k374 σ v7 (u4) 0
set_option maxRecDepth 100000 in
set_option maxHeartbeats 4000000 in
theorem bl_areLegs_485 {p : Program} {l : Launch} {e : Env} {s : State} {m : MethodId} {args : Array Value} {below : List Frame} {meth : Method} {c : Code} {D : va_G} {dA : Nat → ClassId} {A : Nat → Prop} {ar : Nat → Nat} {ob b Ls : Nat} {sc : Nat → Int32} {o : GS × Int32} (X : zc p l s m args meth c cL_areLegs RL D dA A) (Y : zY s A b Ls sc) (hml : c.maxLocals = 12) (hr : meth.sig.returnType = (some .boolean)) {k374 : GS → Int32 → Int32 → Int64 → Option (GS × Int32)} (hk374 : ∀ {σ : GS} {v6 : Int32} {v7 : Int32} {u4 : Int64}, k374 σ v6 v7 u4 = some o → zz p l e ({ frames := 12, cells := 0, slots := 0, locals := 504 } : Room) s m args below meth c A (gw D dA A σ ob ar) 0 0 (MQ below (va_Qi (fun r (_ : Unit) => r = o.2 ∧ True) (fun _ t => gw D dA A o.1 ob ar t.heap) A) args s (0) (0) A) 374 [(0, .ref ob), (6, .int (v6)), (7, .int (v7))] [(4, u4)] []) {σ : GS} {v7 : Int32} {u4 : Int64} (h : fl_areLegs_485 k374 σ v7 u4 = some o) : zz p l e ({ frames := 12, cells := 0, slots := 0, locals := 504 } : Room) s m args below meth c A (gw D dA A σ ob ar) 0 0 (MQ below (va_Qi (fun r (_ : Unit) => r = o.2 ∧ True) (fun _ t => gw D dA A o.1 ob ar t.heap) A) args s (0) (0) A) 485 [(0, .ref ob), (7, .int (v7))] [(4, u4)] [] := by
  unfold fl_areLegs_485 at h
  refine z_iconst (v := 0) X dL_areLegs_485 (by decide) ?_
  refine zz.pick (lo' := [(0, .ref ob), (7, .int (v7))]) [0, 7] rfl ?_
  exact bl_areLegs_486 X Y hml hr hk374 h
def fl_areLegs_461 (k374 : GS → Int32 → Int32 → Int64 → Option (GS × Int32)) (σ : GS) (v7 : Int32) (u4 : Int64) : Option (GS × Int32) := (aq_cellOf σ.1 (v7)).bind fun o1 => (if o1 < 0 then fl_areLegs_485 k374 σ v7 (u4)
  else (aq_cellOf σ.1 (v7)).bind fun o2 => (if 8 ≤ o2 then fl_areLegs_485 k374 σ v7 (u4)
  else fl_areLegs_486 k374 σ v7 (u4) 1))
set_option maxRecDepth 100000 in
set_option maxHeartbeats 4000000 in
theorem bl_areLegs_461 {p : Program} {l : Launch} {e : Env} {s : State} {m : MethodId} {args : Array Value} {below : List Frame} {meth : Method} {c : Code} {D : va_G} {dA : Nat → ClassId} {A : Nat → Prop} {ar : Nat → Nat} {ob b Ls : Nat} {sc : Nat → Int32} {o : GS × Int32} (X : zc p l s m args meth c cL_areLegs RL D dA A) (Y : zY s A b Ls sc) (hml : c.maxLocals = 12) (hr : meth.sig.returnType = (some .boolean)) {k374 : GS → Int32 → Int32 → Int64 → Option (GS × Int32)} (hk374 : ∀ {σ : GS} {v6 : Int32} {v7 : Int32} {u4 : Int64}, k374 σ v6 v7 u4 = some o → zz p l e ({ frames := 12, cells := 0, slots := 0, locals := 504 } : Room) s m args below meth c A (gw D dA A σ ob ar) 0 0 (MQ below (va_Qi (fun r (_ : Unit) => r = o.2 ∧ True) (fun _ t => gw D dA A o.1 ob ar t.heap) A) args s (0) (0) A) 374 [(0, .ref ob), (6, .int (v6)), (7, .int (v7))] [(4, u4)] []) {σ : GS} {v7 : Int32} {u4 : Int64} (h : fl_areLegs_461 k374 σ v7 u4 = some o) : zz p l e ({ frames := 12, cells := 0, slots := 0, locals := 504 } : Room) s m args below meth c A (gw D dA A σ ob ar) 0 0 (MQ below (va_Qi (fun r (_ : Unit) => r = o.2 ∧ True) (fun _ t => gw D dA A o.1 ob ar t.heap) A) args s (0) (0) A) 461 [(0, .ref ob), (7, .int (v7))] [(4, u4)] [] := by
  unfold fl_areLegs_461 at h
  refine z_aload_n X dL_areLegs_461 rfl rfl ?_
  refine z_iload X dL_areLegs_462 rfl ?_
  obtain ⟨o1, co1, h⟩ := zb2 h
  refine l_q (As := [.int (v7)]) (rest := []) (nA := 1) (mc := 0) (ms := 0) (rm := ({ frames := 7, cells := 0, slots := 0, locals := 294 } : Room)) (r0 := o1) X (fun _ h11 => cz_cellOf l X.2.2.2.2.2.2.2.2 X.2.2.2.2.2.2.1 h11 (fun _ z => nomatch z) (qo_eq co1)) n_761 n_762 n_763 n_1 n_764 nh_yX11_cellOf ⟨rfl, rfl, Nat.le_of_ble_eq_true rfl, Nat.le_of_ble_eq_true rfl⟩ rfl rfl (Nat.le_of_ble_eq_true rfl) dL_areLegs_464 ⟨by show _ ≤ 0; omega, by show _ ≤ 0; omega⟩ ?_
  refine z_if_lt (tgt := 485) X dL_areLegs_467 (by decide) (fun q => ?_) (fun q => ?_)
  · have h := zp q h
    refine zz.pick (lo' := [(0, .ref ob), (7, .int (v7))]) [0, 7] rfl ?_
    exact bl_areLegs_485 X Y hml hr hk374 h
  · have h := zn q h
    refine z_aload_n X dL_areLegs_470 rfl rfl ?_
    refine z_iload X dL_areLegs_471 rfl ?_
    obtain ⟨o2, co2, h⟩ := zb2 h
    refine l_q (As := [.int (v7)]) (rest := []) (nA := 1) (mc := 0) (ms := 0) (rm := ({ frames := 7, cells := 0, slots := 0, locals := 294 } : Room)) (r0 := o2) X (fun _ h11 => cz_cellOf l X.2.2.2.2.2.2.2.2 X.2.2.2.2.2.2.1 h11 (fun _ z => nomatch z) (qo_eq co2)) n_761 n_762 n_763 n_1 n_764 nh_yX11_cellOf ⟨rfl, rfl, Nat.le_of_ble_eq_true rfl, Nat.le_of_ble_eq_true rfl⟩ rfl rfl (Nat.le_of_ble_eq_true rfl) dL_areLegs_473 ⟨by show _ ≤ 0; omega, by show _ ≤ 0; omega⟩ ?_
    refine z_bipush (v := 8) X dL_areLegs_476 (by decide) ?_
    refine z_icmp_ge (tgt := 485) X dL_areLegs_478 (by decide) (fun q => ?_) (fun q => ?_)
    · have h := zp q h
      refine zz.pick (lo' := [(0, .ref ob), (7, .int (v7))]) [0, 7] rfl ?_
      exact bl_areLegs_485 X Y hml hr hk374 h
    · have h := zn q h
      refine z_iconst (v := 1) X dL_areLegs_481 (by decide) ?_
      refine z_goto (tgt := 486) X dL_areLegs_482 (by decide) ?_
      refine zz.pick (lo' := [(0, .ref ob), (7, .int (v7))]) [0, 7] rfl ?_
      exact bl_areLegs_486 X Y hml hr hk374 h
def fl_areLegs_419 (k374 : GS → Int32 → Int32 → Int64 → Option (GS × Int32)) (σ : GS) (v7 : Int32) (v8 : Int32) (u4 : Int64) (s0 : Int32) : Option (GS × Int32) := (if s0 = v8 then (if v8 = 0 then (aq_sliceOf σ.1 (v7)).bind fun o1 => (if o1 = 0 then fl_areLegs_461 k374 σ v7 (u4)
  else fl_areLegs_485 k374 σ v7 (u4))
  else (aq_sliceOf σ.1 (v7)).bind fun o2 => (if o2 < 0 then fl_areLegs_485 k374 σ v7 (u4)
  else (aq_sliceOf σ.1 (v7)).bind fun o3 => (if 100 < o3 then fl_areLegs_485 k374 σ v7 (u4)
  else fl_areLegs_461 k374 σ v7 (u4))))
  else fl_areLegs_485 k374 σ v7 (u4))
set_option maxRecDepth 100000 in
set_option maxHeartbeats 4000000 in
theorem bl_areLegs_419 {p : Program} {l : Launch} {e : Env} {s : State} {m : MethodId} {args : Array Value} {below : List Frame} {meth : Method} {c : Code} {D : va_G} {dA : Nat → ClassId} {A : Nat → Prop} {ar : Nat → Nat} {ob b Ls : Nat} {sc : Nat → Int32} {o : GS × Int32} (X : zc p l s m args meth c cL_areLegs RL D dA A) (Y : zY s A b Ls sc) (hml : c.maxLocals = 12) (hr : meth.sig.returnType = (some .boolean)) {k374 : GS → Int32 → Int32 → Int64 → Option (GS × Int32)} (hk374 : ∀ {σ : GS} {v6 : Int32} {v7 : Int32} {u4 : Int64}, k374 σ v6 v7 u4 = some o → zz p l e ({ frames := 12, cells := 0, slots := 0, locals := 504 } : Room) s m args below meth c A (gw D dA A σ ob ar) 0 0 (MQ below (va_Qi (fun r (_ : Unit) => r = o.2 ∧ True) (fun _ t => gw D dA A o.1 ob ar t.heap) A) args s (0) (0) A) 374 [(0, .ref ob), (6, .int (v6)), (7, .int (v7))] [(4, u4)] []) {σ : GS} {v7 : Int32} {v8 : Int32} {u4 : Int64} {s0 : Int32} (h : fl_areLegs_419 k374 σ v7 v8 u4 s0 = some o) : zz p l e ({ frames := 12, cells := 0, slots := 0, locals := 504 } : Room) s m args below meth c A (gw D dA A σ ob ar) 0 0 (MQ below (va_Qi (fun r (_ : Unit) => r = o.2 ∧ True) (fun _ t => gw D dA A o.1 ob ar t.heap) A) args s (0) (0) A) 419 [(0, .ref ob), (7, .int (v7)), (8, .int (v8))] [(4, u4)] [.int (s0)] := by
  unfold fl_areLegs_419 at h
  refine z_iload X dL_areLegs_419 rfl ?_
  refine z_icmp_ne (tgt := 485) X dL_areLegs_421 (by decide) (fun q => ?_) (fun q => ?_)
  · have h := zp q h
    refine z_iload X dL_areLegs_424 rfl ?_
    refine z_if_eq (tgt := 452) X dL_areLegs_426 (by decide) (fun q => ?_) (fun q => ?_)
    · have h := zp q h
      refine z_aload_n X dL_areLegs_452 rfl rfl ?_
      refine z_iload X dL_areLegs_453 rfl ?_
      obtain ⟨o1, co1, h⟩ := zb2 h
      refine l_q (As := [.int (v7)]) (rest := []) (nA := 1) (mc := 0) (ms := 0) (rm := ({ frames := 7, cells := 0, slots := 0, locals := 294 } : Room)) (r0 := o1) X (fun _ h11 => cz_sliceOf l X.2.2.2.2.2.2.2.2 X.2.2.2.2.2.2.1 h11 (fun _ z => nomatch z) (qo_eq co1)) n_937 n_938 n_939 n_1 n_940 nh_yX11_sliceOf ⟨rfl, rfl, Nat.le_of_ble_eq_true rfl, Nat.le_of_ble_eq_true rfl⟩ rfl rfl (Nat.le_of_ble_eq_true rfl) dL_areLegs_455 ⟨by show _ ≤ 0; omega, by show _ ≤ 0; omega⟩ ?_
      refine z_if_ne (tgt := 485) X dL_areLegs_458 (by decide) (fun q => ?_) (fun q => ?_)
      · have h := zp q h
        refine zz.pick (lo' := [(0, .ref ob), (7, .int (v7))]) [0, 7] rfl ?_
        exact bl_areLegs_461 X Y hml hr hk374 h
      · have h := zn q h
        refine zz.pick (lo' := [(0, .ref ob), (7, .int (v7))]) [0, 7] rfl ?_
        exact bl_areLegs_485 X Y hml hr hk374 h
    · have h := zn q h
      refine z_aload_n X dL_areLegs_429 rfl rfl ?_
      refine z_iload X dL_areLegs_430 rfl ?_
      obtain ⟨o2, co2, h⟩ := zb2 h
      refine l_q (As := [.int (v7)]) (rest := []) (nA := 1) (mc := 0) (ms := 0) (rm := ({ frames := 7, cells := 0, slots := 0, locals := 294 } : Room)) (r0 := o2) X (fun _ h11 => cz_sliceOf l X.2.2.2.2.2.2.2.2 X.2.2.2.2.2.2.1 h11 (fun _ z => nomatch z) (qo_eq co2)) n_937 n_938 n_939 n_1 n_940 nh_yX11_sliceOf ⟨rfl, rfl, Nat.le_of_ble_eq_true rfl, Nat.le_of_ble_eq_true rfl⟩ rfl rfl (Nat.le_of_ble_eq_true rfl) dL_areLegs_432 ⟨by show _ ≤ 0; omega, by show _ ≤ 0; omega⟩ ?_
      refine z_if_lt (tgt := 485) X dL_areLegs_435 (by decide) (fun q => ?_) (fun q => ?_)
      · have h := zp q h
        refine zz.pick (lo' := [(0, .ref ob), (7, .int (v7))]) [0, 7] rfl ?_
        exact bl_areLegs_485 X Y hml hr hk374 h
      · have h := zn q h
        refine z_aload_n X dL_areLegs_438 rfl rfl ?_
        refine z_iload X dL_areLegs_439 rfl ?_
        obtain ⟨o3, co3, h⟩ := zb2 h
        refine l_q (As := [.int (v7)]) (rest := []) (nA := 1) (mc := 0) (ms := 0) (rm := ({ frames := 7, cells := 0, slots := 0, locals := 294 } : Room)) (r0 := o3) X (fun _ h11 => cz_sliceOf l X.2.2.2.2.2.2.2.2 X.2.2.2.2.2.2.1 h11 (fun _ z => nomatch z) (qo_eq co3)) n_937 n_938 n_939 n_1 n_940 nh_yX11_sliceOf ⟨rfl, rfl, Nat.le_of_ble_eq_true rfl, Nat.le_of_ble_eq_true rfl⟩ rfl rfl (Nat.le_of_ble_eq_true rfl) dL_areLegs_441 ⟨by show _ ≤ 0; omega, by show _ ≤ 0; omega⟩ ?_
        refine z_bipush (v := 100) X dL_areLegs_444 (by decide) ?_
        refine z_icmp_gt (tgt := 485) X dL_areLegs_446 (by decide) (fun q => ?_) (fun q => ?_)
        · have h := zp q h
          refine zz.pick (lo' := [(0, .ref ob), (7, .int (v7))]) [0, 7] rfl ?_
          exact bl_areLegs_485 X Y hml hr hk374 h
        · have h := zn q h
          refine z_goto (tgt := 461) X dL_areLegs_449 (by decide) ?_
          refine zz.pick (lo' := [(0, .ref ob), (7, .int (v7))]) [0, 7] rfl ?_
          exact bl_areLegs_461 X Y hml hr hk374 h
  · have h := zn q h
    refine zz.pick (lo' := [(0, .ref ob), (7, .int (v7))]) [0, 7] rfl ?_
    exact bl_areLegs_485 X Y hml hr hk374 h
def fl_areLegs_403 (k374 : GS → Int32 → Int32 → Int64 → Option (GS × Int32)) (σ : GS) (v7 : Int32) (u4 : Int64) (s0 : Int32) : Option (GS × Int32) := (aq_legOf σ.1 (v7)).bind fun o1 => (if o1 < 0 then fl_areLegs_419 k374 σ v7 s0 (u4) 0
  else fl_areLegs_419 k374 σ v7 s0 (u4) 1)
set_option maxRecDepth 100000 in
set_option maxHeartbeats 4000000 in
theorem bl_areLegs_403 {p : Program} {l : Launch} {e : Env} {s : State} {m : MethodId} {args : Array Value} {below : List Frame} {meth : Method} {c : Code} {D : va_G} {dA : Nat → ClassId} {A : Nat → Prop} {ar : Nat → Nat} {ob b Ls : Nat} {sc : Nat → Int32} {o : GS × Int32} (X : zc p l s m args meth c cL_areLegs RL D dA A) (Y : zY s A b Ls sc) (hml : c.maxLocals = 12) (hr : meth.sig.returnType = (some .boolean)) {k374 : GS → Int32 → Int32 → Int64 → Option (GS × Int32)} (hk374 : ∀ {σ : GS} {v6 : Int32} {v7 : Int32} {u4 : Int64}, k374 σ v6 v7 u4 = some o → zz p l e ({ frames := 12, cells := 0, slots := 0, locals := 504 } : Room) s m args below meth c A (gw D dA A σ ob ar) 0 0 (MQ below (va_Qi (fun r (_ : Unit) => r = o.2 ∧ True) (fun _ t => gw D dA A o.1 ob ar t.heap) A) args s (0) (0) A) 374 [(0, .ref ob), (6, .int (v6)), (7, .int (v7))] [(4, u4)] []) {σ : GS} {v7 : Int32} {u4 : Int64} {s0 : Int32} (h : fl_areLegs_403 k374 σ v7 u4 s0 = some o) : zz p l e ({ frames := 12, cells := 0, slots := 0, locals := 504 } : Room) s m args below meth c A (gw D dA A σ ob ar) 0 0 (MQ below (va_Qi (fun r (_ : Unit) => r = o.2 ∧ True) (fun _ t => gw D dA A o.1 ob ar t.heap) A) args s (0) (0) A) 403 [(0, .ref ob), (7, .int (v7))] [(4, u4)] [.int (s0)] := by
  unfold fl_areLegs_403 at h
  refine z_istore (lo' := [(8, .int (s0)), (0, .ref ob), (7, .int (v7))]) X dL_areLegs_403 (by rw [hml]; decide) rfl rfl ?_
  refine z_aload_n X dL_areLegs_405 rfl rfl ?_
  refine z_iload X dL_areLegs_406 rfl ?_
  obtain ⟨o1, co1, h⟩ := zb2 h
  refine l_q (As := [.int (v7)]) (rest := []) (nA := 1) (mc := 0) (ms := 0) (rm := ({ frames := 7, cells := 0, slots := 0, locals := 294 } : Room)) (r0 := o1) X (fun _ h11 => cz_legOf l X.2.2.2.2.2.2.2.2 X.2.2.2.2.2.2.1 h11 (fun _ z => nomatch z) (qo_eq co1)) n_313 n_314 n_315 n_1 n_316 nh_yX11_legOf ⟨rfl, rfl, Nat.le_of_ble_eq_true rfl, Nat.le_of_ble_eq_true rfl⟩ rfl rfl (Nat.le_of_ble_eq_true rfl) dL_areLegs_408 ⟨by show _ ≤ 0; omega, by show _ ≤ 0; omega⟩ ?_
  refine z_if_lt (tgt := 418) X dL_areLegs_411 (by decide) (fun q => ?_) (fun q => ?_)
  · have h := zp q h
    refine z_iconst (v := 0) X dL_areLegs_418 (by decide) ?_
    refine zz.pick (lo' := [(0, .ref ob), (7, .int (v7)), (8, .int (s0))]) [0, 7, 8] rfl ?_
    exact bl_areLegs_419 X Y hml hr hk374 h
  · have h := zn q h
    refine z_iconst (v := 1) X dL_areLegs_414 (by decide) ?_
    refine z_goto (tgt := 419) X dL_areLegs_415 (by decide) ?_
    refine zz.pick (lo' := [(0, .ref ob), (7, .int (v7)), (8, .int (s0))]) [0, 7, 8] rfl ?_
    exact bl_areLegs_419 X Y hml hr hk374 h
def fl_areLegs_374 : Nat → GS → Int32 → Int32 → Int64 → Option (GS × Int32)
  | 0, _, _, _, _ => none
  | n + 1, σ, v6, v7, u4 => (if 10 ≤ v7 then if v6 = 0 ∨ v6 = 1 then some (σ, v6) else none
  else (if v6 = 0 then if v6 = 0 ∨ v6 = 1 then some (σ, v6) else none
  else (if (lg_cmp ((u4 >>> ((v7 : Int32).toInt64 &&& 63)) &&& 1) 1) = 0 then fl_areLegs_403 (fl_areLegs_374 n) σ v7 (u4) 1
  else fl_areLegs_403 (fl_areLegs_374 n) σ v7 (u4) 0)))
set_option maxRecDepth 100000 in
set_option maxHeartbeats 4000000 in
theorem bl_areLegs_374 {p : Program} {l : Launch} {e : Env} {s : State} {m : MethodId} {args : Array Value} {below : List Frame} {meth : Method} {c : Code} {D : va_G} {dA : Nat → ClassId} {A : Nat → Prop} {ar : Nat → Nat} {ob b Ls : Nat} {sc : Nat → Int32} {o : GS × Int32} (X : zc p l s m args meth c cL_areLegs RL D dA A) (Y : zY s A b Ls sc) (hml : c.maxLocals = 12) (hr : meth.sig.returnType = (some .boolean)) : ∀ (n : Nat) {σ : GS} {v6 : Int32} {v7 : Int32} {u4 : Int64}, fl_areLegs_374 n σ v6 v7 u4 = some o → zz p l e ({ frames := 12, cells := 0, slots := 0, locals := 504 } : Room) s m args below meth c A (gw D dA A σ ob ar) 0 0 (MQ below (va_Qi (fun r (_ : Unit) => r = o.2 ∧ True) (fun _ t => gw D dA A o.1 ob ar t.heap) A) args s (0) (0) A) 374 [(0, .ref ob), (6, .int (v6)), (7, .int (v7))] [(4, u4)] [] := by
  intro n
  induction n with
  | zero => intro σ v6 v7 u4 h; exact (nomatch (show none = some o from h))
  | succ n ih =>
    intro σ v6 v7 u4 h
    rw [fl_areLegs_374] at h
    refine z_iload X dL_areLegs_374 rfl ?_
    refine z_bipush (v := 10) X dL_areLegs_376 (by decide) ?_
    refine z_icmp_ge (tgt := 494) X dL_areLegs_378 (by decide) (fun q => ?_) (fun q => ?_)
    · have h := zp q h
      refine z_iload X dL_areLegs_494 rfl ?_
      obtain ⟨q, h⟩ := zgp h
      obtain rfl := Option.some.inj h
      exact z_iret X hr (z_nb q) (fun t hG hF _ => ⟨⟨_, (), rfl, ⟨rfl, trivial⟩, hG⟩, hF⟩) dL_areLegs_496
    · have h := zn q h
      refine z_iload X dL_areLegs_381 rfl ?_
      refine z_if_eq (tgt := 494) X dL_areLegs_383 (by decide) (fun q => ?_) (fun q => ?_)
      · have h := zp q h
        refine z_iload X dL_areLegs_494 rfl ?_
        obtain ⟨q, h⟩ := zgp h
        obtain rfl := Option.some.inj h
        exact z_iret X hr (z_nb q) (fun t hG hF _ => ⟨⟨_, (), rfl, ⟨rfl, trivial⟩, hG⟩, hF⟩) dL_areLegs_496
      · have h := zn q h
        refine z_lload X dL_areLegs_386 rfl ?_
        refine z_iload X dL_areLegs_388 rfl ?_
        refine z_lshr X dL_areLegs_390 ?_
        refine z_lconst (v := 1) X dL_areLegs_391 (by decide) ?_
        refine z_land X dL_areLegs_392 ?_
        refine z_lconst (v := 1) X dL_areLegs_393 (by decide) ?_
        refine z_lcmp X dL_areLegs_394 ?_
        refine z_if_ne (tgt := 402) X dL_areLegs_395 (by decide) (fun q => ?_) (fun q => ?_)
        · have h := zp q h
          refine z_iconst (v := 1) X dL_areLegs_398 (by decide) ?_
          refine z_goto (tgt := 403) X dL_areLegs_399 (by decide) ?_
          refine zz.pick (lo' := [(0, .ref ob), (7, .int (v7))]) [0, 7] rfl ?_
          exact bl_areLegs_403 X Y hml hr ih h
        · have h := zn q h
          refine z_iconst (v := 0) X dL_areLegs_402 (by decide) ?_
          refine zz.pick (lo' := [(0, .ref ob), (7, .int (v7))]) [0, 7] rfl ?_
          exact bl_areLegs_403 X Y hml hr ih h
def fl_areLegs_371 (σ : GS) (v6 : Int32) (u4 : Int64) : Option (GS × Int32) := fl_areLegs_374 FU σ v6 0 (u4)
set_option maxRecDepth 100000 in
set_option maxHeartbeats 4000000 in
theorem bl_areLegs_371 {p : Program} {l : Launch} {e : Env} {s : State} {m : MethodId} {args : Array Value} {below : List Frame} {meth : Method} {c : Code} {D : va_G} {dA : Nat → ClassId} {A : Nat → Prop} {ar : Nat → Nat} {ob b Ls : Nat} {sc : Nat → Int32} {o : GS × Int32} (X : zc p l s m args meth c cL_areLegs RL D dA A) (Y : zY s A b Ls sc) (hml : c.maxLocals = 12) (hr : meth.sig.returnType = (some .boolean)) {σ : GS} {v6 : Int32} {u4 : Int64} (h : fl_areLegs_371 σ v6 u4 = some o) : zz p l e ({ frames := 12, cells := 0, slots := 0, locals := 504 } : Room) s m args below meth c A (gw D dA A σ ob ar) 0 0 (MQ below (va_Qi (fun r (_ : Unit) => r = o.2 ∧ True) (fun _ t => gw D dA A o.1 ob ar t.heap) A) args s (0) (0) A) 371 [(0, .ref ob), (6, .int (v6))] [(4, u4)] [] := by
  unfold fl_areLegs_371 at h
  refine z_iconst (v := 0) X dL_areLegs_371 (by decide) ?_
  refine z_istore (lo' := [(7, .int (0)), (0, .ref ob), (6, .int (v6))]) X dL_areLegs_372 (by rw [hml]; decide) rfl rfl ?_
  refine zz.pick (lo' := [(0, .ref ob), (6, .int (v6)), (7, .int (0))]) [0, 6, 7] rfl ?_
  exact bl_areLegs_374 X Y hml hr FU h
def fl_areLegs_363 (k33 : GS → Int32 → Int32 → Int64 → Option (GS × Int32)) (σ : GS) (v7 : Int32) (u4 : Int64) (s0 : Int32) : Option (GS × Int32) := (some (v7 + 1)).bind fun x1 => k33 σ s0 x1 (u4)
set_option maxRecDepth 100000 in
set_option maxHeartbeats 4000000 in
theorem bl_areLegs_363 {p : Program} {l : Launch} {e : Env} {s : State} {m : MethodId} {args : Array Value} {below : List Frame} {meth : Method} {c : Code} {D : va_G} {dA : Nat → ClassId} {A : Nat → Prop} {ar : Nat → Nat} {ob b Ls : Nat} {sc : Nat → Int32} {o : GS × Int32} (X : zc p l s m args meth c cL_areLegs RL D dA A) (Y : zY s A b Ls sc) (hml : c.maxLocals = 12) (hr : meth.sig.returnType = (some .boolean)) {k33 : GS → Int32 → Int32 → Int64 → Option (GS × Int32)} (hk33 : ∀ {σ : GS} {v6 : Int32} {v7 : Int32} {u4 : Int64}, k33 σ v6 v7 u4 = some o → zz p l e ({ frames := 12, cells := 0, slots := 0, locals := 504 } : Room) s m args below meth c A (gw D dA A σ ob ar) 0 0 (MQ below (va_Qi (fun r (_ : Unit) => r = o.2 ∧ True) (fun _ t => gw D dA A o.1 ob ar t.heap) A) args s (0) (0) A) 33 [(0, .ref ob), (1, .ref (ar 0)), (2, .ref (ar 1)), (3, .ref (ar 2)), (6, .int (v6)), (7, .int (v7))] [(4, u4)] []) {σ : GS} {v7 : Int32} {u4 : Int64} {s0 : Int32} (h : fl_areLegs_363 k33 σ v7 u4 s0 = some o) : zz p l e ({ frames := 12, cells := 0, slots := 0, locals := 504 } : Room) s m args below meth c A (gw D dA A σ ob ar) 0 0 (MQ below (va_Qi (fun r (_ : Unit) => r = o.2 ∧ True) (fun _ t => gw D dA A o.1 ob ar t.heap) A) args s (0) (0) A) 363 [(0, .ref ob), (1, .ref (ar 0)), (2, .ref (ar 1)), (3, .ref (ar 2)), (7, .int (v7))] [(4, u4)] [.int (s0)] := by
  unfold fl_areLegs_363 at h
  refine z_istore (lo' := [(6, .int (s0)), (0, .ref ob), (1, .ref (ar 0)), (2, .ref (ar 1)), (3, .ref (ar 2)), (7, .int (v7))]) X dL_areLegs_363 (by rw [hml]; decide) rfl rfl ?_
  obtain ⟨x1, ex1, h⟩ := zb h
  refine z_iinc (v := x1) (lo' := [(7, .int (x1)), (6, .int (s0)), (0, .ref ob), (1, .ref (ar 0)), (2, .ref (ar 1)), (3, .ref (ar 2))]) X dL_areLegs_365 rfl ex1 (by rw [hml]; decide) rfl rfl ?_
  refine z_goto (tgt := 33) X dL_areLegs_368 (by decide) ?_
  refine zz.pick (lo' := [(0, .ref ob), (1, .ref (ar 0)), (2, .ref (ar 1)), (3, .ref (ar 2)), (6, .int (s0)), (7, .int (x1))]) [0, 1, 2, 3, 6, 7] rfl ?_
  exact hk33  h
def fl_areLegs_362 (k33 : GS → Int32 → Int32 → Int64 → Option (GS × Int32)) (σ : GS) (v7 : Int32) (u4 : Int64) : Option (GS × Int32) := fl_areLegs_363 k33 σ v7 (u4) 0
set_option maxRecDepth 100000 in
set_option maxHeartbeats 4000000 in
theorem bl_areLegs_362 {p : Program} {l : Launch} {e : Env} {s : State} {m : MethodId} {args : Array Value} {below : List Frame} {meth : Method} {c : Code} {D : va_G} {dA : Nat → ClassId} {A : Nat → Prop} {ar : Nat → Nat} {ob b Ls : Nat} {sc : Nat → Int32} {o : GS × Int32} (X : zc p l s m args meth c cL_areLegs RL D dA A) (Y : zY s A b Ls sc) (hml : c.maxLocals = 12) (hr : meth.sig.returnType = (some .boolean)) {k33 : GS → Int32 → Int32 → Int64 → Option (GS × Int32)} (hk33 : ∀ {σ : GS} {v6 : Int32} {v7 : Int32} {u4 : Int64}, k33 σ v6 v7 u4 = some o → zz p l e ({ frames := 12, cells := 0, slots := 0, locals := 504 } : Room) s m args below meth c A (gw D dA A σ ob ar) 0 0 (MQ below (va_Qi (fun r (_ : Unit) => r = o.2 ∧ True) (fun _ t => gw D dA A o.1 ob ar t.heap) A) args s (0) (0) A) 33 [(0, .ref ob), (1, .ref (ar 0)), (2, .ref (ar 1)), (3, .ref (ar 2)), (6, .int (v6)), (7, .int (v7))] [(4, u4)] []) {σ : GS} {v7 : Int32} {u4 : Int64} (h : fl_areLegs_362 k33 σ v7 u4 = some o) : zz p l e ({ frames := 12, cells := 0, slots := 0, locals := 504 } : Room) s m args below meth c A (gw D dA A σ ob ar) 0 0 (MQ below (va_Qi (fun r (_ : Unit) => r = o.2 ∧ True) (fun _ t => gw D dA A o.1 ob ar t.heap) A) args s (0) (0) A) 362 [(0, .ref ob), (1, .ref (ar 0)), (2, .ref (ar 1)), (3, .ref (ar 2)), (7, .int (v7))] [(4, u4)] [] := by
  unfold fl_areLegs_362 at h
  refine z_iconst (v := 0) X dL_areLegs_362 (by decide) ?_
  refine zz.pick (lo' := [(0, .ref ob), (1, .ref (ar 0)), (2, .ref (ar 1)), (3, .ref (ar 2)), (7, .int (v7))]) [0, 1, 2, 3, 7] rfl ?_
  exact bl_areLegs_363 X Y hml hr hk33 h
def fl_areLegs_358 (k33 : GS → Int32 → Int32 → Int64 → Option (GS × Int32)) (σ : GS) (v7 : Int32) (u4 : Int64) : Option (GS × Int32) := fl_areLegs_363 k33 σ v7 (u4) 1
set_option maxRecDepth 100000 in
set_option maxHeartbeats 4000000 in
theorem bl_areLegs_358 {p : Program} {l : Launch} {e : Env} {s : State} {m : MethodId} {args : Array Value} {below : List Frame} {meth : Method} {c : Code} {D : va_G} {dA : Nat → ClassId} {A : Nat → Prop} {ar : Nat → Nat} {ob b Ls : Nat} {sc : Nat → Int32} {o : GS × Int32} (X : zc p l s m args meth c cL_areLegs RL D dA A) (Y : zY s A b Ls sc) (hml : c.maxLocals = 12) (hr : meth.sig.returnType = (some .boolean)) {k33 : GS → Int32 → Int32 → Int64 → Option (GS × Int32)} (hk33 : ∀ {σ : GS} {v6 : Int32} {v7 : Int32} {u4 : Int64}, k33 σ v6 v7 u4 = some o → zz p l e ({ frames := 12, cells := 0, slots := 0, locals := 504 } : Room) s m args below meth c A (gw D dA A σ ob ar) 0 0 (MQ below (va_Qi (fun r (_ : Unit) => r = o.2 ∧ True) (fun _ t => gw D dA A o.1 ob ar t.heap) A) args s (0) (0) A) 33 [(0, .ref ob), (1, .ref (ar 0)), (2, .ref (ar 1)), (3, .ref (ar 2)), (6, .int (v6)), (7, .int (v7))] [(4, u4)] []) {σ : GS} {v7 : Int32} {u4 : Int64} (h : fl_areLegs_358 k33 σ v7 u4 = some o) : zz p l e ({ frames := 12, cells := 0, slots := 0, locals := 504 } : Room) s m args below meth c A (gw D dA A σ ob ar) 0 0 (MQ below (va_Qi (fun r (_ : Unit) => r = o.2 ∧ True) (fun _ t => gw D dA A o.1 ob ar t.heap) A) args s (0) (0) A) 358 [(0, .ref ob), (1, .ref (ar 0)), (2, .ref (ar 1)), (3, .ref (ar 2)), (7, .int (v7))] [(4, u4)] [] := by
  unfold fl_areLegs_358 at h
  refine z_iconst (v := 1) X dL_areLegs_358 (by decide) ?_
  refine z_goto (tgt := 363) X dL_areLegs_359 (by decide) ?_
  refine zz.pick (lo' := [(0, .ref ob), (1, .ref (ar 0)), (2, .ref (ar 1)), (3, .ref (ar 2)), (7, .int (v7))]) [0, 1, 2, 3, 7] rfl ?_
  exact bl_areLegs_363 X Y hml hr hk33 h
def fl_areLegs_281 (k33 : GS → Int32 → Int32 → Int64 → Option (GS × Int32)) (σ : GS) (v6 : Int32) (v7 : Int32) (v8 : Int32) (u4 : Int64) : Option (GS × Int32) := (if v6 = 0 then fl_areLegs_362 k33 σ v7 (u4)
  else (aq_seal σ.1 (v7)).bind fun o1 => if v7 < 0 ∨ 64 ≤ (v7).toNatClampNeg then none else if v7 < 0 ∨ 64 ≤ (v7).toNatClampNeg then none else (if o1 = ((σ.2 1 (v7).toNatClampNeg) ^^^ ((((σ.2 1 (v7).toNatClampNeg) : Int32).toUInt32 >>> ((16 : Int32).toUInt32 &&& Int32.toUInt32 31)).toInt32)) then (aq_tag σ.1 (v7)).bind fun o4 => (if o4 < (-128) then fl_areLegs_362 k33 σ v7 (u4)
  else (aq_tag σ.1 (v7)).bind fun o5 => (if 127 < o5 then fl_areLegs_362 k33 σ v7 (u4)
  else (aq_seconds σ.1 (v7)).bind fun o6 => (if 0 < o6 then fl_areLegs_358 k33 σ v7 (u4)
  else (aq_tag σ.1 (v7)).bind fun o7 => (if o7 = v8 then (aq_ratedByEvents σ.1 (v7)).bind fun o8 => (if o8 = 0 then fl_areLegs_358 k33 σ v7 (u4)
  else fl_areLegs_362 k33 σ v7 (u4))
  else fl_areLegs_362 k33 σ v7 (u4)))))
  else fl_areLegs_362 k33 σ v7 (u4)))
set_option maxRecDepth 100000 in
set_option maxHeartbeats 4000000 in
theorem bl_areLegs_281 {p : Program} {l : Launch} {e : Env} {s : State} {m : MethodId} {args : Array Value} {below : List Frame} {meth : Method} {c : Code} {D : va_G} {dA : Nat → ClassId} {A : Nat → Prop} {ar : Nat → Nat} {ob b Ls : Nat} {sc : Nat → Int32} {o : GS × Int32} (X : zc p l s m args meth c cL_areLegs RL D dA A) (Y : zY s A b Ls sc) (hml : c.maxLocals = 12) (hr : meth.sig.returnType = (some .boolean)) {k33 : GS → Int32 → Int32 → Int64 → Option (GS × Int32)} (hk33 : ∀ {σ : GS} {v6 : Int32} {v7 : Int32} {u4 : Int64}, k33 σ v6 v7 u4 = some o → zz p l e ({ frames := 12, cells := 0, slots := 0, locals := 504 } : Room) s m args below meth c A (gw D dA A σ ob ar) 0 0 (MQ below (va_Qi (fun r (_ : Unit) => r = o.2 ∧ True) (fun _ t => gw D dA A o.1 ob ar t.heap) A) args s (0) (0) A) 33 [(0, .ref ob), (1, .ref (ar 0)), (2, .ref (ar 1)), (3, .ref (ar 2)), (6, .int (v6)), (7, .int (v7))] [(4, u4)] []) {σ : GS} {v6 : Int32} {v7 : Int32} {v8 : Int32} {u4 : Int64} (h : fl_areLegs_281 k33 σ v6 v7 v8 u4 = some o) : zz p l e ({ frames := 12, cells := 0, slots := 0, locals := 504 } : Room) s m args below meth c A (gw D dA A σ ob ar) 0 0 (MQ below (va_Qi (fun r (_ : Unit) => r = o.2 ∧ True) (fun _ t => gw D dA A o.1 ob ar t.heap) A) args s (0) (0) A) 281 [(0, .ref ob), (1, .ref (ar 0)), (2, .ref (ar 1)), (3, .ref (ar 2)), (6, .int (v6)), (7, .int (v7)), (8, .int (v8))] [(4, u4)] [] := by
  unfold fl_areLegs_281 at h
  refine z_iload X dL_areLegs_281 rfl ?_
  refine z_if_eq (tgt := 362) X dL_areLegs_283 (by decide) (fun q => ?_) (fun q => ?_)
  · have h := zp q h
    refine zz.pick (lo' := [(0, .ref ob), (1, .ref (ar 0)), (2, .ref (ar 1)), (3, .ref (ar 2)), (7, .int (v7))]) [0, 1, 2, 3, 7] rfl ?_
    exact bl_areLegs_362 X Y hml hr hk33 h
  · have h := zn q h
    refine z_aload_n X dL_areLegs_286 rfl rfl ?_
    refine z_iload X dL_areLegs_287 rfl ?_
    obtain ⟨o1, co1, h⟩ := zb2 h
    refine l_q (As := [.int (v7)]) (rest := []) (nA := 1) (mc := 0) (ms := 0) (rm := ({ frames := 10, cells := 0, slots := 0, locals := 420 } : Room)) (r0 := o1) X (fun _ h11 => cz_seal l X.2.2.2.2.2.2.2.2 X.2.2.2.2.2.2.1 h11 (fun _ z => nomatch z) (qo_eq co1)) n_908 n_909 n_910 n_1 n_911 nh_yX11_seal ⟨rfl, rfl, Nat.le_of_ble_eq_true rfl, Nat.le_of_ble_eq_true rfl⟩ rfl rfl (Nat.le_of_ble_eq_true rfl) dL_areLegs_289 ⟨by show _ ≤ 0; omega, by show _ ≤ 0; omega⟩ ?_
    refine z_aload_n X dL_areLegs_292 rfl rfl ?_
    refine z_iload X dL_areLegs_293 rfl ?_
    obtain ⟨q2, h⟩ := zg h
    refine l_ald X 1 rfl q2 dL_areLegs_295 ?_
    refine z_aload_n X dL_areLegs_296 rfl rfl ?_
    refine z_iload X dL_areLegs_297 rfl ?_
    obtain ⟨q3, h⟩ := zg h
    refine l_ald X 1 rfl q3 dL_areLegs_299 ?_
    refine z_bipush (v := 16) X dL_areLegs_300 (by decide) ?_
    refine z_iushr X dL_areLegs_302 ?_
    refine z_ixor X dL_areLegs_303 ?_
    refine z_icmp_ne (tgt := 362) X dL_areLegs_304 (by decide) (fun q => ?_) (fun q => ?_)
    · have h := zp q h
      refine z_aload_n X dL_areLegs_307 rfl rfl ?_
      refine z_iload X dL_areLegs_308 rfl ?_
      obtain ⟨o4, co4, h⟩ := zb2 h
      refine l_q (As := [.int (v7)]) (rest := []) (nA := 1) (mc := 0) (ms := 0) (rm := ({ frames := 10, cells := 0, slots := 0, locals := 420 } : Room)) (r0 := o4) X (fun _ h11 => cz_tag l X.2.2.2.2.2.2.2.2 X.2.2.2.2.2.2.1 h11 (fun _ z => nomatch z) (qo_eq co4)) n_917 n_918 n_919 n_1 n_920 nh_yX11_tag ⟨rfl, rfl, Nat.le_of_ble_eq_true rfl, Nat.le_of_ble_eq_true rfl⟩ rfl rfl (Nat.le_of_ble_eq_true rfl) dL_areLegs_310 ⟨by show _ ≤ 0; omega, by show _ ≤ 0; omega⟩ ?_
      refine z_bipush (v := (-128)) X dL_areLegs_313 (by decide) ?_
      refine z_icmp_lt (tgt := 362) X dL_areLegs_315 (by decide) (fun q => ?_) (fun q => ?_)
      · have h := zp q h
        refine zz.pick (lo' := [(0, .ref ob), (1, .ref (ar 0)), (2, .ref (ar 1)), (3, .ref (ar 2)), (7, .int (v7))]) [0, 1, 2, 3, 7] rfl ?_
        exact bl_areLegs_362 X Y hml hr hk33 h
      · have h := zn q h
        refine z_aload_n X dL_areLegs_318 rfl rfl ?_
        refine z_iload X dL_areLegs_319 rfl ?_
        obtain ⟨o5, co5, h⟩ := zb2 h
        refine l_q (As := [.int (v7)]) (rest := []) (nA := 1) (mc := 0) (ms := 0) (rm := ({ frames := 10, cells := 0, slots := 0, locals := 420 } : Room)) (r0 := o5) X (fun _ h11 => cz_tag l X.2.2.2.2.2.2.2.2 X.2.2.2.2.2.2.1 h11 (fun _ z => nomatch z) (qo_eq co5)) n_917 n_918 n_919 n_1 n_920 nh_yX11_tag ⟨rfl, rfl, Nat.le_of_ble_eq_true rfl, Nat.le_of_ble_eq_true rfl⟩ rfl rfl (Nat.le_of_ble_eq_true rfl) dL_areLegs_321 ⟨by show _ ≤ 0; omega, by show _ ≤ 0; omega⟩ ?_
        refine z_bipush (v := 127) X dL_areLegs_324 (by decide) ?_
        refine z_icmp_gt (tgt := 362) X dL_areLegs_326 (by decide) (fun q => ?_) (fun q => ?_)
        · have h := zp q h
          refine zz.pick (lo' := [(0, .ref ob), (1, .ref (ar 0)), (2, .ref (ar 1)), (3, .ref (ar 2)), (7, .int (v7))]) [0, 1, 2, 3, 7] rfl ?_
          exact bl_areLegs_362 X Y hml hr hk33 h
        · have h := zn q h
          refine z_aload_n X dL_areLegs_329 rfl rfl ?_
          refine z_iload X dL_areLegs_330 rfl ?_
          obtain ⟨o6, co6, h⟩ := zb2 h
          refine l_q (As := [.int (v7)]) (rest := []) (nA := 1) (mc := 0) (ms := 0) (rm := ({ frames := 10, cells := 0, slots := 0, locals := 420 } : Room)) (r0 := o6) X (fun _ h11 => cz_seconds l X.2.2.2.2.2.2.2.2 X.2.2.2.2.2.2.1 h11 (fun _ z => nomatch z) (qo_eq co6)) n_904 n_905 n_906 n_1 n_907 nh_yX11_seconds ⟨rfl, rfl, Nat.le_of_ble_eq_true rfl, Nat.le_of_ble_eq_true rfl⟩ rfl rfl (Nat.le_of_ble_eq_true rfl) dL_areLegs_332 ⟨by show _ ≤ 0; omega, by show _ ≤ 0; omega⟩ ?_
          refine z_if_gt (tgt := 358) X dL_areLegs_335 (by decide) (fun q => ?_) (fun q => ?_)
          · have h := zp q h
            refine zz.pick (lo' := [(0, .ref ob), (1, .ref (ar 0)), (2, .ref (ar 1)), (3, .ref (ar 2)), (7, .int (v7))]) [0, 1, 2, 3, 7] rfl ?_
            exact bl_areLegs_358 X Y hml hr hk33 h
          · have h := zn q h
            refine z_aload_n X dL_areLegs_338 rfl rfl ?_
            refine z_iload X dL_areLegs_339 rfl ?_
            obtain ⟨o7, co7, h⟩ := zb2 h
            refine l_q (As := [.int (v7)]) (rest := []) (nA := 1) (mc := 0) (ms := 0) (rm := ({ frames := 10, cells := 0, slots := 0, locals := 420 } : Room)) (r0 := o7) X (fun _ h11 => cz_tag l X.2.2.2.2.2.2.2.2 X.2.2.2.2.2.2.1 h11 (fun _ z => nomatch z) (qo_eq co7)) n_917 n_918 n_919 n_1 n_920 nh_yX11_tag ⟨rfl, rfl, Nat.le_of_ble_eq_true rfl, Nat.le_of_ble_eq_true rfl⟩ rfl rfl (Nat.le_of_ble_eq_true rfl) dL_areLegs_341 ⟨by show _ ≤ 0; omega, by show _ ≤ 0; omega⟩ ?_
            refine z_iload X dL_areLegs_344 rfl ?_
            refine z_icmp_ne (tgt := 362) X dL_areLegs_346 (by decide) (fun q => ?_) (fun q => ?_)
            · have h := zp q h
              refine z_aload_n X dL_areLegs_349 rfl rfl ?_
              refine z_iload X dL_areLegs_350 rfl ?_
              obtain ⟨o8, co8, h⟩ := zb2 h
              refine l_q (As := [.int (v7)]) (rest := []) (nA := 1) (mc := 0) (ms := 0) (rm := ({ frames := 11, cells := 0, slots := 0, locals := 462 } : Room)) (r0 := o8) X (fun _ h11 => cz_ratedByEvents l X.2.2.2.2.2.2.2.2 X.2.2.2.2.2.2.1 h11 (fun _ z => nomatch z) (qo_eq co8)) n_921 n_922 n_923 n_1 n_924 nh_yX11_ratedByEvents ⟨rfl, rfl, Nat.le_of_ble_eq_true rfl, Nat.le_of_ble_eq_true rfl⟩ rfl rfl (Nat.le_of_ble_eq_true rfl) dL_areLegs_352 ⟨by show _ ≤ 0; omega, by show _ ≤ 0; omega⟩ ?_
              refine z_if_ne (tgt := 362) X dL_areLegs_355 (by decide) (fun q => ?_) (fun q => ?_)
              · have h := zp q h
                refine zz.pick (lo' := [(0, .ref ob), (1, .ref (ar 0)), (2, .ref (ar 1)), (3, .ref (ar 2)), (7, .int (v7))]) [0, 1, 2, 3, 7] rfl ?_
                exact bl_areLegs_358 X Y hml hr hk33 h
              · have h := zn q h
                refine zz.pick (lo' := [(0, .ref ob), (1, .ref (ar 0)), (2, .ref (ar 1)), (3, .ref (ar 2)), (7, .int (v7))]) [0, 1, 2, 3, 7] rfl ?_
                exact bl_areLegs_362 X Y hml hr hk33 h
            · have h := zn q h
              refine zz.pick (lo' := [(0, .ref ob), (1, .ref (ar 0)), (2, .ref (ar 1)), (3, .ref (ar 2)), (7, .int (v7))]) [0, 1, 2, 3, 7] rfl ?_
              exact bl_areLegs_362 X Y hml hr hk33 h
    · have h := zn q h
      refine zz.pick (lo' := [(0, .ref ob), (1, .ref (ar 0)), (2, .ref (ar 1)), (3, .ref (ar 2)), (7, .int (v7))]) [0, 1, 2, 3, 7] rfl ?_
      exact bl_areLegs_362 X Y hml hr hk33 h
def fl_areLegs_219 (k33 : GS → Int32 → Int32 → Int64 → Option (GS × Int32)) (σ : GS) (v6 : Int32) (v7 : Int32) (v8 : Int32) (v10 : Int32) (v11 : Int32) (s0 : Int64) (s1 : Int64) : Option (GS × Int32) := (some ((s0 ||| s1))).bind fun x1 => (if v11 = 0 then fl_areLegs_281 k33 σ v6 v7 v8 (x1)
  else if v7 < 0 ∨ 64 ≤ (v7).toNatClampNeg then none else (fl_part σ ((σ.2 0 (v7).toNatClampNeg)) (13) (1)).bind fun o3 => (if o3 = 0 then if v7 < 0 ∨ 64 ≤ (v7).toNatClampNeg then none else if v7 < 0 ∨ 64 ≤ (v7).toNatClampNeg then none else (some ((σ.1, cs σ.2 0 (v7).toNatClampNeg (((σ.2 0 (v7).toNatClampNeg) ||| 8192))) : GS)).bind fun σ5 => if v7 < 0 ∨ 64 ≤ (v7).toNatClampNeg then none else (aq_seconds σ5.1 (v7)).bind fun o8 => if v7 < 0 ∨ 64 ≤ (v7).toNatClampNeg then none else (fl_part σ5 ((σ5.2 0 (v7).toNatClampNeg)) (10) (3)).bind fun o10 => (fl_event σ5 ((σ5.2 1 (v7).toNatClampNeg)) (2) ((v10 + o8)) (o10)).bind fun o11 => if v7 < 0 ∨ 64 ≤ (v7).toNatClampNeg then none else (some ((σ5.1, cs σ5.2 1 (v7).toNatClampNeg (o11)) : GS)).bind fun σ12 => fl_areLegs_281 k33 σ12 v6 v7 v8 (x1)
  else fl_areLegs_281 k33 σ v6 v7 v8 (x1)))
set_option maxRecDepth 100000 in
set_option maxHeartbeats 4000000 in
theorem bl_areLegs_219 {p : Program} {l : Launch} {e : Env} {s : State} {m : MethodId} {args : Array Value} {below : List Frame} {meth : Method} {c : Code} {D : va_G} {dA : Nat → ClassId} {A : Nat → Prop} {ar : Nat → Nat} {ob b Ls : Nat} {sc : Nat → Int32} {o : GS × Int32} (X : zc p l s m args meth c cL_areLegs RL D dA A) (Y : zY s A b Ls sc) (hml : c.maxLocals = 12) (hr : meth.sig.returnType = (some .boolean)) {k33 : GS → Int32 → Int32 → Int64 → Option (GS × Int32)} (hk33 : ∀ {σ : GS} {v6 : Int32} {v7 : Int32} {u4 : Int64}, k33 σ v6 v7 u4 = some o → zz p l e ({ frames := 12, cells := 0, slots := 0, locals := 504 } : Room) s m args below meth c A (gw D dA A σ ob ar) 0 0 (MQ below (va_Qi (fun r (_ : Unit) => r = o.2 ∧ True) (fun _ t => gw D dA A o.1 ob ar t.heap) A) args s (0) (0) A) 33 [(0, .ref ob), (1, .ref (ar 0)), (2, .ref (ar 1)), (3, .ref (ar 2)), (6, .int (v6)), (7, .int (v7))] [(4, u4)] []) {σ : GS} {v6 : Int32} {v7 : Int32} {v8 : Int32} {v10 : Int32} {v11 : Int32} {s0 : Int64} {s1 : Int64} (h : fl_areLegs_219 k33 σ v6 v7 v8 v10 v11 s0 s1 = some o) : zz p l e ({ frames := 12, cells := 0, slots := 0, locals := 504 } : Room) s m args below meth c A (gw D dA A σ ob ar) 0 0 (MQ below (va_Qi (fun r (_ : Unit) => r = o.2 ∧ True) (fun _ t => gw D dA A o.1 ob ar t.heap) A) args s (0) (0) A) 219 [(0, .ref ob), (1, .ref (ar 0)), (2, .ref (ar 1)), (3, .ref (ar 2)), (6, .int (v6)), (7, .int (v7)), (8, .int (v8)), (10, .int (v10)), (11, .int (v11))] [] [.long (s1), .long (s0)] := by
  unfold fl_areLegs_219 at h
  refine z_lor X dL_areLegs_219 ?_
  obtain ⟨x1, ex1, h⟩ := zb h
  rw [ex1]
  refine z_lstore X dL_areLegs_220 (by rw [hml]; decide) (lo' := [(0, .ref ob), (1, .ref (ar 0)), (2, .ref (ar 1)), (3, .ref (ar 2)), (6, .int (v6)), (7, .int (v7)), (8, .int (v8)), (10, .int (v10)), (11, .int (v11))]) (ll' := [(4, x1)]) rfl rfl ?_
  refine z_iload X dL_areLegs_222 rfl ?_
  refine z_if_eq (tgt := 281) X dL_areLegs_224 (by decide) (fun q => ?_) (fun q => ?_)
  · have h := zp q h
    refine zz.pick (lo' := [(0, .ref ob), (1, .ref (ar 0)), (2, .ref (ar 1)), (3, .ref (ar 2)), (6, .int (v6)), (7, .int (v7)), (8, .int (v8))]) [0, 1, 2, 3, 6, 7, 8] rfl ?_
    exact bl_areLegs_281 X Y hml hr hk33 h
  · have h := zn q h
    refine z_aload_n X dL_areLegs_227 rfl rfl ?_
    refine z_iload X dL_areLegs_228 rfl ?_
    obtain ⟨q2, h⟩ := zg h
    refine l_ald X 0 rfl q2 dL_areLegs_230 ?_
    refine z_bipush (v := 13) X dL_areLegs_231 (by decide) ?_
    refine z_iconst (v := 1) X dL_areLegs_233 (by decide) ?_
    obtain ⟨o3, co3, h⟩ := zb2 h
    refine z_lSi (As := [.int ((σ.2 0 (v7).toNatClampNeg)), .int (13), .int (1)]) (rest := []) (nA := 3) (mc := 0) (ms := 0) (r0 := o3) (pu := fun (_ : Unit) => True) (G1 := fun _ => gw D dA A σ ob ar) X Y (ll_part l X.2.2.2.2.2.2.2.2 X.2.2.2.2.2.2.1 Y.2.2.2 co3) n_784 n_785 n_0 n_786 nh_yL_part ⟨rfl, rfl, Nat.le_of_ble_eq_true rfl, Nat.le_of_ble_eq_true rfl⟩ rfl rfl (Nat.le_of_ble_eq_true rfl) dL_areLegs_234 ⟨by show _ ≤ 0; omega, by show _ ≤ 0; omega⟩ (fun _ _ => ?_)
    refine z_if_ne (tgt := 281) X dL_areLegs_237 (by decide) (fun q => ?_) (fun q => ?_)
    · have h := zp q h
      refine z_aload_n X dL_areLegs_240 rfl rfl ?_
      refine z_iload X dL_areLegs_241 rfl ?_
      refine z_dup2 X dL_areLegs_243 rfl rfl ?_
      obtain ⟨q4, h⟩ := zg h
      refine l_ald X 0 rfl q4 dL_areLegs_244 ?_
      refine z_sipush (v := 8192) X dL_areLegs_245 (by decide) ?_
      refine z_ior X dL_areLegs_248 ?_
      obtain ⟨q6, h⟩ := zg h
      obtain ⟨σ5, eσ5, h⟩ := zb h
      refine l_ast X 0 rfl q6 eσ5 dL_areLegs_249 ?_
      refine z_aload_n X dL_areLegs_250 rfl rfl ?_
      refine z_iload X dL_areLegs_251 rfl ?_
      refine z_aload_n X dL_areLegs_253 rfl rfl ?_
      refine z_iload X dL_areLegs_254 rfl ?_
      obtain ⟨q7, h⟩ := zg h
      refine l_ald X 1 rfl q7 dL_areLegs_256 ?_
      refine z_iconst (v := 2) X dL_areLegs_257 (by decide) ?_
      refine z_iload X dL_areLegs_258 rfl ?_
      refine z_aload_n X dL_areLegs_260 rfl rfl ?_
      refine z_iload X dL_areLegs_261 rfl ?_
      obtain ⟨o8, co8, h⟩ := zb2 h
      refine l_q (As := [.int (v7)]) (rest := [.int (v10), .int (2), .int ((σ5.2 1 (v7).toNatClampNeg)), .int (v7), .ref (ar 1)]) (nA := 1) (mc := 0) (ms := 0) (rm := ({ frames := 10, cells := 0, slots := 0, locals := 420 } : Room)) (r0 := o8) X (fun _ h11 => cz_seconds l X.2.2.2.2.2.2.2.2 X.2.2.2.2.2.2.1 h11 (fun _ z => nomatch z) (qo_eq co8)) n_904 n_905 n_906 n_1 n_907 nh_yX11_seconds ⟨rfl, rfl, Nat.le_of_ble_eq_true rfl, Nat.le_of_ble_eq_true rfl⟩ rfl rfl (Nat.le_of_ble_eq_true rfl) dL_areLegs_263 ⟨by show _ ≤ 0; omega, by show _ ≤ 0; omega⟩ ?_
      refine z_iadd X dL_areLegs_266 ?_
      refine z_aload_n X dL_areLegs_267 rfl rfl ?_
      refine z_iload X dL_areLegs_268 rfl ?_
      obtain ⟨q9, h⟩ := zg h
      refine l_ald X 0 rfl q9 dL_areLegs_270 ?_
      refine z_bipush (v := 10) X dL_areLegs_271 (by decide) ?_
      refine z_iconst (v := 3) X dL_areLegs_273 (by decide) ?_
      obtain ⟨o10, co10, h⟩ := zb2 h
      refine z_lSi (As := [.int ((σ5.2 0 (v7).toNatClampNeg)), .int (10), .int (3)]) (rest := [.int ((v10 + o8)), .int (2), .int ((σ5.2 1 (v7).toNatClampNeg)), .int (v7), .ref (ar 1)]) (nA := 3) (mc := 0) (ms := 0) (r0 := o10) (pu := fun (_ : Unit) => True) (G1 := fun _ => gw D dA A σ5 ob ar) X Y (ll_part l X.2.2.2.2.2.2.2.2 X.2.2.2.2.2.2.1 Y.2.2.2 co10) n_784 n_785 n_0 n_786 nh_yL_part ⟨rfl, rfl, Nat.le_of_ble_eq_true rfl, Nat.le_of_ble_eq_true rfl⟩ rfl rfl (Nat.le_of_ble_eq_true rfl) dL_areLegs_274 ⟨by show _ ≤ 0; omega, by show _ ≤ 0; omega⟩ (fun _ _ => ?_)
      obtain ⟨o11, co11, h⟩ := zb2 h
      refine z_lSi (As := [.int ((σ5.2 1 (v7).toNatClampNeg)), .int (2), .int ((v10 + o8)), .int (o10)]) (rest := [.int (v7), .ref (ar 1)]) (nA := 4) (mc := 0) (ms := 0) (r0 := o11) (pu := fun (_ : Unit) => True) (G1 := fun _ => gw D dA A σ5 ob ar) X Y (ll_event l X.2.2.2.2.2.2.2.2 X.2.2.2.2.2.2.1 Y.2.2.2 co11) n_768 n_769 n_0 n_770 nh_yL_event ⟨rfl, rfl, Nat.le_of_ble_eq_true rfl, Nat.le_of_ble_eq_true rfl⟩ rfl rfl (Nat.le_of_ble_eq_true rfl) dL_areLegs_277 ⟨by show _ ≤ 0; omega, by show _ ≤ 0; omega⟩ (fun _ _ => ?_)
      obtain ⟨q13, h⟩ := zg h
      obtain ⟨σ12, eσ12, h⟩ := zb h
      refine l_ast X 1 rfl q13 eσ12 dL_areLegs_280 ?_
      refine zz.pick (lo' := [(0, .ref ob), (1, .ref (ar 0)), (2, .ref (ar 1)), (3, .ref (ar 2)), (6, .int (v6)), (7, .int (v7)), (8, .int (v8))]) [0, 1, 2, 3, 6, 7, 8] rfl ?_
      exact bl_areLegs_281 X Y hml hr hk33 h
    · have h := zn q h
      refine zz.pick (lo' := [(0, .ref ob), (1, .ref (ar 0)), (2, .ref (ar 1)), (3, .ref (ar 2)), (6, .int (v6)), (7, .int (v7)), (8, .int (v8))]) [0, 1, 2, 3, 6, 7, 8] rfl ?_
      exact bl_areLegs_281 X Y hml hr hk33 h
def fl_areLegs_202 (k33 : GS → Int32 → Int32 → Int64 → Option (GS × Int32)) (σ : GS) (v7 : Int32) (v8 : Int32) (v10 : Int32) (v11 : Int32) (u4 : Int64) (s0 : Int32) : Option (GS × Int32) := (if v11 = 0 then fl_areLegs_219 k33 σ s0 v7 v8 v10 v11 u4 (1 <<< ((v8 : Int32).toInt64 &&& 63))
  else fl_areLegs_219 k33 σ s0 v7 v8 v10 v11 u4 0)
set_option maxRecDepth 100000 in
set_option maxHeartbeats 4000000 in
theorem bl_areLegs_202 {p : Program} {l : Launch} {e : Env} {s : State} {m : MethodId} {args : Array Value} {below : List Frame} {meth : Method} {c : Code} {D : va_G} {dA : Nat → ClassId} {A : Nat → Prop} {ar : Nat → Nat} {ob b Ls : Nat} {sc : Nat → Int32} {o : GS × Int32} (X : zc p l s m args meth c cL_areLegs RL D dA A) (Y : zY s A b Ls sc) (hml : c.maxLocals = 12) (hr : meth.sig.returnType = (some .boolean)) {k33 : GS → Int32 → Int32 → Int64 → Option (GS × Int32)} (hk33 : ∀ {σ : GS} {v6 : Int32} {v7 : Int32} {u4 : Int64}, k33 σ v6 v7 u4 = some o → zz p l e ({ frames := 12, cells := 0, slots := 0, locals := 504 } : Room) s m args below meth c A (gw D dA A σ ob ar) 0 0 (MQ below (va_Qi (fun r (_ : Unit) => r = o.2 ∧ True) (fun _ t => gw D dA A o.1 ob ar t.heap) A) args s (0) (0) A) 33 [(0, .ref ob), (1, .ref (ar 0)), (2, .ref (ar 1)), (3, .ref (ar 2)), (6, .int (v6)), (7, .int (v7))] [(4, u4)] []) {σ : GS} {v7 : Int32} {v8 : Int32} {v10 : Int32} {v11 : Int32} {u4 : Int64} {s0 : Int32} (h : fl_areLegs_202 k33 σ v7 v8 v10 v11 u4 s0 = some o) : zz p l e ({ frames := 12, cells := 0, slots := 0, locals := 504 } : Room) s m args below meth c A (gw D dA A σ ob ar) 0 0 (MQ below (va_Qi (fun r (_ : Unit) => r = o.2 ∧ True) (fun _ t => gw D dA A o.1 ob ar t.heap) A) args s (0) (0) A) 202 [(0, .ref ob), (1, .ref (ar 0)), (2, .ref (ar 1)), (3, .ref (ar 2)), (7, .int (v7)), (8, .int (v8)), (10, .int (v10)), (11, .int (v11))] [(4, u4)] [.int (s0)] := by
  unfold fl_areLegs_202 at h
  refine z_istore (lo' := [(6, .int (s0)), (0, .ref ob), (1, .ref (ar 0)), (2, .ref (ar 1)), (3, .ref (ar 2)), (7, .int (v7)), (8, .int (v8)), (10, .int (v10)), (11, .int (v11))]) X dL_areLegs_202 (by rw [hml]; decide) rfl rfl ?_
  refine z_lload X dL_areLegs_204 rfl ?_
  refine z_iload X dL_areLegs_206 rfl ?_
  refine z_if_eq (tgt := 215) X dL_areLegs_208 (by decide) (fun q => ?_) (fun q => ?_)
  · have h := zp q h
    refine z_lconst (v := 1) X dL_areLegs_215 (by decide) ?_
    refine z_iload X dL_areLegs_216 rfl ?_
    refine z_lshl X dL_areLegs_218 ?_
    refine zz.pick (lo' := [(0, .ref ob), (1, .ref (ar 0)), (2, .ref (ar 1)), (3, .ref (ar 2)), (6, .int (s0)), (7, .int (v7)), (8, .int (v8)), (10, .int (v10)), (11, .int (v11))]) [0, 1, 2, 3, 6, 7, 8, 10, 11] rfl ?_
    refine zz.pickl (ll' := []) [] rfl ?_
    exact bl_areLegs_219 X Y hml hr hk33 h
  · have h := zn q h
    refine z_lconst (v := 0) X dL_areLegs_211 (by decide) ?_
    refine z_goto (tgt := 219) X dL_areLegs_212 (by decide) ?_
    refine zz.pick (lo' := [(0, .ref ob), (1, .ref (ar 0)), (2, .ref (ar 1)), (3, .ref (ar 2)), (6, .int (s0)), (7, .int (v7)), (8, .int (v8)), (10, .int (v10)), (11, .int (v11))]) [0, 1, 2, 3, 6, 7, 8, 10, 11] rfl ?_
    refine zz.pickl (ll' := []) [] rfl ?_
    exact bl_areLegs_219 X Y hml hr hk33 h
def fl_areLegs_201 (k33 : GS → Int32 → Int32 → Int64 → Option (GS × Int32)) (σ : GS) (v7 : Int32) (v8 : Int32) (v10 : Int32) (v11 : Int32) (u4 : Int64) : Option (GS × Int32) := fl_areLegs_202 k33 σ v7 v8 v10 v11 (u4) 0
set_option maxRecDepth 100000 in
set_option maxHeartbeats 4000000 in
theorem bl_areLegs_201 {p : Program} {l : Launch} {e : Env} {s : State} {m : MethodId} {args : Array Value} {below : List Frame} {meth : Method} {c : Code} {D : va_G} {dA : Nat → ClassId} {A : Nat → Prop} {ar : Nat → Nat} {ob b Ls : Nat} {sc : Nat → Int32} {o : GS × Int32} (X : zc p l s m args meth c cL_areLegs RL D dA A) (Y : zY s A b Ls sc) (hml : c.maxLocals = 12) (hr : meth.sig.returnType = (some .boolean)) {k33 : GS → Int32 → Int32 → Int64 → Option (GS × Int32)} (hk33 : ∀ {σ : GS} {v6 : Int32} {v7 : Int32} {u4 : Int64}, k33 σ v6 v7 u4 = some o → zz p l e ({ frames := 12, cells := 0, slots := 0, locals := 504 } : Room) s m args below meth c A (gw D dA A σ ob ar) 0 0 (MQ below (va_Qi (fun r (_ : Unit) => r = o.2 ∧ True) (fun _ t => gw D dA A o.1 ob ar t.heap) A) args s (0) (0) A) 33 [(0, .ref ob), (1, .ref (ar 0)), (2, .ref (ar 1)), (3, .ref (ar 2)), (6, .int (v6)), (7, .int (v7))] [(4, u4)] []) {σ : GS} {v7 : Int32} {v8 : Int32} {v10 : Int32} {v11 : Int32} {u4 : Int64} (h : fl_areLegs_201 k33 σ v7 v8 v10 v11 u4 = some o) : zz p l e ({ frames := 12, cells := 0, slots := 0, locals := 504 } : Room) s m args below meth c A (gw D dA A σ ob ar) 0 0 (MQ below (va_Qi (fun r (_ : Unit) => r = o.2 ∧ True) (fun _ t => gw D dA A o.1 ob ar t.heap) A) args s (0) (0) A) 201 [(0, .ref ob), (1, .ref (ar 0)), (2, .ref (ar 1)), (3, .ref (ar 2)), (7, .int (v7)), (8, .int (v8)), (10, .int (v10)), (11, .int (v11))] [(4, u4)] [] := by
  unfold fl_areLegs_201 at h
  refine z_iconst (v := 0) X dL_areLegs_201 (by decide) ?_
  refine zz.pick (lo' := [(0, .ref ob), (1, .ref (ar 0)), (2, .ref (ar 1)), (3, .ref (ar 2)), (7, .int (v7)), (8, .int (v8)), (10, .int (v10)), (11, .int (v11))]) [0, 1, 2, 3, 7, 8, 10, 11] rfl ?_
  exact bl_areLegs_202 X Y hml hr hk33 h
def fl_areLegs_197 (k33 : GS → Int32 → Int32 → Int64 → Option (GS × Int32)) (σ : GS) (v7 : Int32) (v8 : Int32) (v10 : Int32) (v11 : Int32) (u4 : Int64) : Option (GS × Int32) := fl_areLegs_202 k33 σ v7 v8 v10 v11 (u4) 1
set_option maxRecDepth 100000 in
set_option maxHeartbeats 4000000 in
theorem bl_areLegs_197 {p : Program} {l : Launch} {e : Env} {s : State} {m : MethodId} {args : Array Value} {below : List Frame} {meth : Method} {c : Code} {D : va_G} {dA : Nat → ClassId} {A : Nat → Prop} {ar : Nat → Nat} {ob b Ls : Nat} {sc : Nat → Int32} {o : GS × Int32} (X : zc p l s m args meth c cL_areLegs RL D dA A) (Y : zY s A b Ls sc) (hml : c.maxLocals = 12) (hr : meth.sig.returnType = (some .boolean)) {k33 : GS → Int32 → Int32 → Int64 → Option (GS × Int32)} (hk33 : ∀ {σ : GS} {v6 : Int32} {v7 : Int32} {u4 : Int64}, k33 σ v6 v7 u4 = some o → zz p l e ({ frames := 12, cells := 0, slots := 0, locals := 504 } : Room) s m args below meth c A (gw D dA A σ ob ar) 0 0 (MQ below (va_Qi (fun r (_ : Unit) => r = o.2 ∧ True) (fun _ t => gw D dA A o.1 ob ar t.heap) A) args s (0) (0) A) 33 [(0, .ref ob), (1, .ref (ar 0)), (2, .ref (ar 1)), (3, .ref (ar 2)), (6, .int (v6)), (7, .int (v7))] [(4, u4)] []) {σ : GS} {v7 : Int32} {v8 : Int32} {v10 : Int32} {v11 : Int32} {u4 : Int64} (h : fl_areLegs_197 k33 σ v7 v8 v10 v11 u4 = some o) : zz p l e ({ frames := 12, cells := 0, slots := 0, locals := 504 } : Room) s m args below meth c A (gw D dA A σ ob ar) 0 0 (MQ below (va_Qi (fun r (_ : Unit) => r = o.2 ∧ True) (fun _ t => gw D dA A o.1 ob ar t.heap) A) args s (0) (0) A) 197 [(0, .ref ob), (1, .ref (ar 0)), (2, .ref (ar 1)), (3, .ref (ar 2)), (7, .int (v7)), (8, .int (v8)), (10, .int (v10)), (11, .int (v11))] [(4, u4)] [] := by
  unfold fl_areLegs_197 at h
  refine z_iconst (v := 1) X dL_areLegs_197 (by decide) ?_
  refine z_goto (tgt := 202) X dL_areLegs_198 (by decide) ?_
  refine zz.pick (lo' := [(0, .ref ob), (1, .ref (ar 0)), (2, .ref (ar 1)), (3, .ref (ar 2)), (7, .int (v7)), (8, .int (v8)), (10, .int (v10)), (11, .int (v11))]) [0, 1, 2, 3, 7, 8, 10, 11] rfl ?_
  exact bl_areLegs_202 X Y hml hr hk33 h
def fl_areLegs_179 (k33 : GS → Int32 → Int32 → Int64 → Option (GS × Int32)) (σ : GS) (v7 : Int32) (v8 : Int32) (v10 : Int32) (v11 : Int32) (u4 : Int64) : Option (GS × Int32) := if v7 < 0 ∨ 64 ≤ (v7).toNatClampNeg then none else (fl_part σ ((σ.2 0 (v7).toNatClampNeg)) (13) (1)).bind fun o2 => (if o2 = 0 then fl_areLegs_197 k33 σ v7 v8 v10 v11 (u4)
  else (if v11 = 0 then fl_areLegs_201 k33 σ v7 v8 v10 v11 (u4)
  else fl_areLegs_197 k33 σ v7 v8 v10 v11 (u4)))
set_option maxRecDepth 100000 in
set_option maxHeartbeats 4000000 in
theorem bl_areLegs_179 {p : Program} {l : Launch} {e : Env} {s : State} {m : MethodId} {args : Array Value} {below : List Frame} {meth : Method} {c : Code} {D : va_G} {dA : Nat → ClassId} {A : Nat → Prop} {ar : Nat → Nat} {ob b Ls : Nat} {sc : Nat → Int32} {o : GS × Int32} (X : zc p l s m args meth c cL_areLegs RL D dA A) (Y : zY s A b Ls sc) (hml : c.maxLocals = 12) (hr : meth.sig.returnType = (some .boolean)) {k33 : GS → Int32 → Int32 → Int64 → Option (GS × Int32)} (hk33 : ∀ {σ : GS} {v6 : Int32} {v7 : Int32} {u4 : Int64}, k33 σ v6 v7 u4 = some o → zz p l e ({ frames := 12, cells := 0, slots := 0, locals := 504 } : Room) s m args below meth c A (gw D dA A σ ob ar) 0 0 (MQ below (va_Qi (fun r (_ : Unit) => r = o.2 ∧ True) (fun _ t => gw D dA A o.1 ob ar t.heap) A) args s (0) (0) A) 33 [(0, .ref ob), (1, .ref (ar 0)), (2, .ref (ar 1)), (3, .ref (ar 2)), (6, .int (v6)), (7, .int (v7))] [(4, u4)] []) {σ : GS} {v7 : Int32} {v8 : Int32} {v10 : Int32} {v11 : Int32} {u4 : Int64} (h : fl_areLegs_179 k33 σ v7 v8 v10 v11 u4 = some o) : zz p l e ({ frames := 12, cells := 0, slots := 0, locals := 504 } : Room) s m args below meth c A (gw D dA A σ ob ar) 0 0 (MQ below (va_Qi (fun r (_ : Unit) => r = o.2 ∧ True) (fun _ t => gw D dA A o.1 ob ar t.heap) A) args s (0) (0) A) 179 [(0, .ref ob), (1, .ref (ar 0)), (2, .ref (ar 1)), (3, .ref (ar 2)), (7, .int (v7)), (8, .int (v8)), (10, .int (v10)), (11, .int (v11))] [(4, u4)] [] := by
  unfold fl_areLegs_179 at h
  refine z_aload_n X dL_areLegs_179 rfl rfl ?_
  refine z_iload X dL_areLegs_180 rfl ?_
  obtain ⟨q1, h⟩ := zg h
  refine l_ald X 0 rfl q1 dL_areLegs_182 ?_
  refine z_bipush (v := 13) X dL_areLegs_183 (by decide) ?_
  refine z_iconst (v := 1) X dL_areLegs_185 (by decide) ?_
  obtain ⟨o2, co2, h⟩ := zb2 h
  refine z_lSi (As := [.int ((σ.2 0 (v7).toNatClampNeg)), .int (13), .int (1)]) (rest := []) (nA := 3) (mc := 0) (ms := 0) (r0 := o2) (pu := fun (_ : Unit) => True) (G1 := fun _ => gw D dA A σ ob ar) X Y (ll_part l X.2.2.2.2.2.2.2.2 X.2.2.2.2.2.2.1 Y.2.2.2 co2) n_784 n_785 n_0 n_786 nh_yL_part ⟨rfl, rfl, Nat.le_of_ble_eq_true rfl, Nat.le_of_ble_eq_true rfl⟩ rfl rfl (Nat.le_of_ble_eq_true rfl) dL_areLegs_186 ⟨by show _ ≤ 0; omega, by show _ ≤ 0; omega⟩ (fun _ _ => ?_)
  refine z_if_eq (tgt := 197) X dL_areLegs_189 (by decide) (fun q => ?_) (fun q => ?_)
  · have h := zp q h
    refine zz.pick (lo' := [(0, .ref ob), (1, .ref (ar 0)), (2, .ref (ar 1)), (3, .ref (ar 2)), (7, .int (v7)), (8, .int (v8)), (10, .int (v10)), (11, .int (v11))]) [0, 1, 2, 3, 7, 8, 10, 11] rfl ?_
    exact bl_areLegs_197 X Y hml hr hk33 h
  · have h := zn q h
    refine z_iload X dL_areLegs_192 rfl ?_
    refine z_if_eq (tgt := 201) X dL_areLegs_194 (by decide) (fun q => ?_) (fun q => ?_)
    · have h := zp q h
      refine zz.pick (lo' := [(0, .ref ob), (1, .ref (ar 0)), (2, .ref (ar 1)), (3, .ref (ar 2)), (7, .int (v7)), (8, .int (v8)), (10, .int (v10)), (11, .int (v11))]) [0, 1, 2, 3, 7, 8, 10, 11] rfl ?_
      exact bl_areLegs_201 X Y hml hr hk33 h
    · have h := zn q h
      refine zz.pick (lo' := [(0, .ref ob), (1, .ref (ar 0)), (2, .ref (ar 1)), (3, .ref (ar 2)), (7, .int (v7)), (8, .int (v8)), (10, .int (v10)), (11, .int (v11))]) [0, 1, 2, 3, 7, 8, 10, 11] rfl ?_
      exact bl_areLegs_197 X Y hml hr hk33 h
def fl_areLegs_159 (k33 : GS → Int32 → Int32 → Int64 → Option (GS × Int32)) (σ : GS) (v7 : Int32) (v8 : Int32) (v10 : Int32) (v11 : Int32) (u4 : Int64) : Option (GS × Int32) := (if v11 = 0 then fl_areLegs_179 k33 σ v7 v8 v10 v11 (u4)
  else (aq_seconds σ.1 (v7)).bind fun o1 => (if ((σ.2 2 (0).toNatClampNeg) - v10) < o1 then fl_areLegs_201 k33 σ v7 v8 v10 v11 (u4)
  else fl_areLegs_179 k33 σ v7 v8 v10 v11 (u4)))
set_option maxRecDepth 100000 in
set_option maxHeartbeats 4000000 in
theorem bl_areLegs_159 {p : Program} {l : Launch} {e : Env} {s : State} {m : MethodId} {args : Array Value} {below : List Frame} {meth : Method} {c : Code} {D : va_G} {dA : Nat → ClassId} {A : Nat → Prop} {ar : Nat → Nat} {ob b Ls : Nat} {sc : Nat → Int32} {o : GS × Int32} (X : zc p l s m args meth c cL_areLegs RL D dA A) (Y : zY s A b Ls sc) (hml : c.maxLocals = 12) (hr : meth.sig.returnType = (some .boolean)) {k33 : GS → Int32 → Int32 → Int64 → Option (GS × Int32)} (hk33 : ∀ {σ : GS} {v6 : Int32} {v7 : Int32} {u4 : Int64}, k33 σ v6 v7 u4 = some o → zz p l e ({ frames := 12, cells := 0, slots := 0, locals := 504 } : Room) s m args below meth c A (gw D dA A σ ob ar) 0 0 (MQ below (va_Qi (fun r (_ : Unit) => r = o.2 ∧ True) (fun _ t => gw D dA A o.1 ob ar t.heap) A) args s (0) (0) A) 33 [(0, .ref ob), (1, .ref (ar 0)), (2, .ref (ar 1)), (3, .ref (ar 2)), (6, .int (v6)), (7, .int (v7))] [(4, u4)] []) {σ : GS} {v7 : Int32} {v8 : Int32} {v10 : Int32} {v11 : Int32} {u4 : Int64} (h : fl_areLegs_159 k33 σ v7 v8 v10 v11 u4 = some o) : zz p l e ({ frames := 12, cells := 0, slots := 0, locals := 504 } : Room) s m args below meth c A (gw D dA A σ ob ar) 0 0 (MQ below (va_Qi (fun r (_ : Unit) => r = o.2 ∧ True) (fun _ t => gw D dA A o.1 ob ar t.heap) A) args s (0) (0) A) 159 [(0, .ref ob), (1, .ref (ar 0)), (2, .ref (ar 1)), (3, .ref (ar 2)), (7, .int (v7)), (8, .int (v8)), (10, .int (v10)), (11, .int (v11))] [(4, u4)] [] := by
  unfold fl_areLegs_159 at h
  refine z_iload X dL_areLegs_159 rfl ?_
  refine z_if_eq (tgt := 179) X dL_areLegs_161 (by decide) (fun q => ?_) (fun q => ?_)
  · have h := zp q h
    refine zz.pick (lo' := [(0, .ref ob), (1, .ref (ar 0)), (2, .ref (ar 1)), (3, .ref (ar 2)), (7, .int (v7)), (8, .int (v8)), (10, .int (v10)), (11, .int (v11))]) [0, 1, 2, 3, 7, 8, 10, 11] rfl ?_
    exact bl_areLegs_179 X Y hml hr hk33 h
  · have h := zn q h
    refine z_aload_n X dL_areLegs_164 rfl rfl ?_
    refine z_iload X dL_areLegs_165 rfl ?_
    obtain ⟨o1, co1, h⟩ := zb2 h
    refine l_q (As := [.int (v7)]) (rest := []) (nA := 1) (mc := 0) (ms := 0) (rm := ({ frames := 10, cells := 0, slots := 0, locals := 420 } : Room)) (r0 := o1) X (fun _ h11 => cz_seconds l X.2.2.2.2.2.2.2.2 X.2.2.2.2.2.2.1 h11 (fun _ z => nomatch z) (qo_eq co1)) n_904 n_905 n_906 n_1 n_907 nh_yX11_seconds ⟨rfl, rfl, Nat.le_of_ble_eq_true rfl, Nat.le_of_ble_eq_true rfl⟩ rfl rfl (Nat.le_of_ble_eq_true rfl) dL_areLegs_167 ⟨by show _ ≤ 0; omega, by show _ ≤ 0; omega⟩ ?_
    refine z_aload_n X dL_areLegs_170 rfl rfl ?_
    refine z_iconst (v := 0) X dL_areLegs_171 (by decide) ?_
    refine l_ald X 2 rfl (by decide) dL_areLegs_172 ?_
    refine z_iload X dL_areLegs_173 rfl ?_
    refine z_isub X dL_areLegs_175 ?_
    refine z_icmp_gt (tgt := 201) X dL_areLegs_176 (by decide) (fun q => ?_) (fun q => ?_)
    · have h := zp q h
      refine zz.pick (lo' := [(0, .ref ob), (1, .ref (ar 0)), (2, .ref (ar 1)), (3, .ref (ar 2)), (7, .int (v7)), (8, .int (v8)), (10, .int (v10)), (11, .int (v11))]) [0, 1, 2, 3, 7, 8, 10, 11] rfl ?_
      exact bl_areLegs_201 X Y hml hr hk33 h
    · have h := zn q h
      refine zz.pick (lo' := [(0, .ref ob), (1, .ref (ar 0)), (2, .ref (ar 1)), (3, .ref (ar 2)), (7, .int (v7)), (8, .int (v8)), (10, .int (v10)), (11, .int (v11))]) [0, 1, 2, 3, 7, 8, 10, 11] rfl ?_
      exact bl_areLegs_179 X Y hml hr hk33 h
def fl_areLegs_84 (k33 : GS → Int32 → Int32 → Int64 → Option (GS × Int32)) (σ : GS) (v7 : Int32) (v8 : Int32) (v9 : Int32) (v10 : Int32) (u4 : Int64) (s0 : Int32) : Option (GS × Int32) := (if v9 < 0 then fl_areLegs_201 k33 σ v7 v8 v10 s0 (u4)
  else (if 4 ≤ v9 then fl_areLegs_201 k33 σ v7 v8 v10 s0 (u4)
  else (if s0 = 0 then (aq_seconds σ.1 (v7)).bind fun o1 => (if o1 = ((σ.2 2 (0).toNatClampNeg) - v10) then (aq_legOf σ.1 (v8)).bind fun o2 => (if o2 = v7 then (aq_cellOf σ.1 (v8)).bind fun o3 => if v7 < 0 ∨ 64 ≤ (v7).toNatClampNeg then none else (fl_part σ ((σ.2 0 (v7).toNatClampNeg)) (10) (3)).bind fun o5 => (if o3 = o5 then (if (lg_cmp ((u4 >>> ((v8 : Int32).toInt64 &&& 63)) &&& 1) 0) = 0 then fl_areLegs_159 k33 σ v7 v8 v10 s0 (u4)
  else fl_areLegs_201 k33 σ v7 v8 v10 s0 (u4))
  else fl_areLegs_201 k33 σ v7 v8 v10 s0 (u4))
  else fl_areLegs_201 k33 σ v7 v8 v10 s0 (u4))
  else fl_areLegs_201 k33 σ v7 v8 v10 s0 (u4))
  else fl_areLegs_159 k33 σ v7 v8 v10 s0 (u4))))
set_option maxRecDepth 100000 in
set_option maxHeartbeats 4000000 in
theorem bl_areLegs_84 {p : Program} {l : Launch} {e : Env} {s : State} {m : MethodId} {args : Array Value} {below : List Frame} {meth : Method} {c : Code} {D : va_G} {dA : Nat → ClassId} {A : Nat → Prop} {ar : Nat → Nat} {ob b Ls : Nat} {sc : Nat → Int32} {o : GS × Int32} (X : zc p l s m args meth c cL_areLegs RL D dA A) (Y : zY s A b Ls sc) (hml : c.maxLocals = 12) (hr : meth.sig.returnType = (some .boolean)) {k33 : GS → Int32 → Int32 → Int64 → Option (GS × Int32)} (hk33 : ∀ {σ : GS} {v6 : Int32} {v7 : Int32} {u4 : Int64}, k33 σ v6 v7 u4 = some o → zz p l e ({ frames := 12, cells := 0, slots := 0, locals := 504 } : Room) s m args below meth c A (gw D dA A σ ob ar) 0 0 (MQ below (va_Qi (fun r (_ : Unit) => r = o.2 ∧ True) (fun _ t => gw D dA A o.1 ob ar t.heap) A) args s (0) (0) A) 33 [(0, .ref ob), (1, .ref (ar 0)), (2, .ref (ar 1)), (3, .ref (ar 2)), (6, .int (v6)), (7, .int (v7))] [(4, u4)] []) {σ : GS} {v7 : Int32} {v8 : Int32} {v9 : Int32} {v10 : Int32} {u4 : Int64} {s0 : Int32} (h : fl_areLegs_84 k33 σ v7 v8 v9 v10 u4 s0 = some o) : zz p l e ({ frames := 12, cells := 0, slots := 0, locals := 504 } : Room) s m args below meth c A (gw D dA A σ ob ar) 0 0 (MQ below (va_Qi (fun r (_ : Unit) => r = o.2 ∧ True) (fun _ t => gw D dA A o.1 ob ar t.heap) A) args s (0) (0) A) 84 [(0, .ref ob), (1, .ref (ar 0)), (2, .ref (ar 1)), (3, .ref (ar 2)), (7, .int (v7)), (8, .int (v8)), (9, .int (v9)), (10, .int (v10))] [(4, u4)] [.int (s0)] := by
  unfold fl_areLegs_84 at h
  refine z_istore (lo' := [(11, .int (s0)), (0, .ref ob), (1, .ref (ar 0)), (2, .ref (ar 1)), (3, .ref (ar 2)), (7, .int (v7)), (8, .int (v8)), (9, .int (v9)), (10, .int (v10))]) X dL_areLegs_84 (by rw [hml]; decide) rfl rfl ?_
  refine z_iload X dL_areLegs_86 rfl ?_
  refine z_if_lt (tgt := 201) X dL_areLegs_88 (by decide) (fun q => ?_) (fun q => ?_)
  · have h := zp q h
    refine zz.pick (lo' := [(0, .ref ob), (1, .ref (ar 0)), (2, .ref (ar 1)), (3, .ref (ar 2)), (7, .int (v7)), (8, .int (v8)), (10, .int (v10)), (11, .int (s0))]) [0, 1, 2, 3, 7, 8, 10, 11] rfl ?_
    exact bl_areLegs_201 X Y hml hr hk33 h
  · have h := zn q h
    refine z_iload X dL_areLegs_91 rfl ?_
    refine z_iconst (v := 4) X dL_areLegs_93 (by decide) ?_
    refine z_icmp_ge (tgt := 201) X dL_areLegs_94 (by decide) (fun q => ?_) (fun q => ?_)
    · have h := zp q h
      refine zz.pick (lo' := [(0, .ref ob), (1, .ref (ar 0)), (2, .ref (ar 1)), (3, .ref (ar 2)), (7, .int (v7)), (8, .int (v8)), (10, .int (v10)), (11, .int (s0))]) [0, 1, 2, 3, 7, 8, 10, 11] rfl ?_
      exact bl_areLegs_201 X Y hml hr hk33 h
    · have h := zn q h
      refine z_iload X dL_areLegs_97 rfl ?_
      refine z_if_ne (tgt := 159) X dL_areLegs_99 (by decide) (fun q => ?_) (fun q => ?_)
      · have h := zp q h
        refine z_aload_n X dL_areLegs_102 rfl rfl ?_
        refine z_iload X dL_areLegs_103 rfl ?_
        obtain ⟨o1, co1, h⟩ := zb2 h
        refine l_q (As := [.int (v7)]) (rest := []) (nA := 1) (mc := 0) (ms := 0) (rm := ({ frames := 10, cells := 0, slots := 0, locals := 420 } : Room)) (r0 := o1) X (fun _ h11 => cz_seconds l X.2.2.2.2.2.2.2.2 X.2.2.2.2.2.2.1 h11 (fun _ z => nomatch z) (qo_eq co1)) n_904 n_905 n_906 n_1 n_907 nh_yX11_seconds ⟨rfl, rfl, Nat.le_of_ble_eq_true rfl, Nat.le_of_ble_eq_true rfl⟩ rfl rfl (Nat.le_of_ble_eq_true rfl) dL_areLegs_105 ⟨by show _ ≤ 0; omega, by show _ ≤ 0; omega⟩ ?_
        refine z_aload_n X dL_areLegs_108 rfl rfl ?_
        refine z_iconst (v := 0) X dL_areLegs_109 (by decide) ?_
        refine l_ald X 2 rfl (by decide) dL_areLegs_110 ?_
        refine z_iload X dL_areLegs_111 rfl ?_
        refine z_isub X dL_areLegs_113 ?_
        refine z_icmp_ne (tgt := 201) X dL_areLegs_114 (by decide) (fun q => ?_) (fun q => ?_)
        · have h := zp q h
          refine z_aload_n X dL_areLegs_117 rfl rfl ?_
          refine z_iload X dL_areLegs_118 rfl ?_
          obtain ⟨o2, co2, h⟩ := zb2 h
          refine l_q (As := [.int (v8)]) (rest := []) (nA := 1) (mc := 0) (ms := 0) (rm := ({ frames := 7, cells := 0, slots := 0, locals := 294 } : Room)) (r0 := o2) X (fun _ h11 => cz_legOf l X.2.2.2.2.2.2.2.2 X.2.2.2.2.2.2.1 h11 (fun _ z => nomatch z) (qo_eq co2)) n_313 n_314 n_315 n_1 n_316 nh_yX11_legOf ⟨rfl, rfl, Nat.le_of_ble_eq_true rfl, Nat.le_of_ble_eq_true rfl⟩ rfl rfl (Nat.le_of_ble_eq_true rfl) dL_areLegs_120 ⟨by show _ ≤ 0; omega, by show _ ≤ 0; omega⟩ ?_
          refine z_iload X dL_areLegs_123 rfl ?_
          refine z_icmp_ne (tgt := 201) X dL_areLegs_125 (by decide) (fun q => ?_) (fun q => ?_)
          · have h := zp q h
            refine z_aload_n X dL_areLegs_128 rfl rfl ?_
            refine z_iload X dL_areLegs_129 rfl ?_
            obtain ⟨o3, co3, h⟩ := zb2 h
            refine l_q (As := [.int (v8)]) (rest := []) (nA := 1) (mc := 0) (ms := 0) (rm := ({ frames := 7, cells := 0, slots := 0, locals := 294 } : Room)) (r0 := o3) X (fun _ h11 => cz_cellOf l X.2.2.2.2.2.2.2.2 X.2.2.2.2.2.2.1 h11 (fun _ z => nomatch z) (qo_eq co3)) n_761 n_762 n_763 n_1 n_764 nh_yX11_cellOf ⟨rfl, rfl, Nat.le_of_ble_eq_true rfl, Nat.le_of_ble_eq_true rfl⟩ rfl rfl (Nat.le_of_ble_eq_true rfl) dL_areLegs_131 ⟨by show _ ≤ 0; omega, by show _ ≤ 0; omega⟩ ?_
            refine z_aload_n X dL_areLegs_134 rfl rfl ?_
            refine z_iload X dL_areLegs_135 rfl ?_
            obtain ⟨q4, h⟩ := zg h
            refine l_ald X 0 rfl q4 dL_areLegs_137 ?_
            refine z_bipush (v := 10) X dL_areLegs_138 (by decide) ?_
            refine z_iconst (v := 3) X dL_areLegs_140 (by decide) ?_
            obtain ⟨o5, co5, h⟩ := zb2 h
            refine z_lSi (As := [.int ((σ.2 0 (v7).toNatClampNeg)), .int (10), .int (3)]) (rest := [.int (o3)]) (nA := 3) (mc := 0) (ms := 0) (r0 := o5) (pu := fun (_ : Unit) => True) (G1 := fun _ => gw D dA A σ ob ar) X Y (ll_part l X.2.2.2.2.2.2.2.2 X.2.2.2.2.2.2.1 Y.2.2.2 co5) n_784 n_785 n_0 n_786 nh_yL_part ⟨rfl, rfl, Nat.le_of_ble_eq_true rfl, Nat.le_of_ble_eq_true rfl⟩ rfl rfl (Nat.le_of_ble_eq_true rfl) dL_areLegs_141 ⟨by show _ ≤ 0; omega, by show _ ≤ 0; omega⟩ (fun _ _ => ?_)
            refine z_icmp_ne (tgt := 201) X dL_areLegs_144 (by decide) (fun q => ?_) (fun q => ?_)
            · have h := zp q h
              refine z_lload X dL_areLegs_147 rfl ?_
              refine z_iload X dL_areLegs_149 rfl ?_
              refine z_lshr X dL_areLegs_151 ?_
              refine z_lconst (v := 1) X dL_areLegs_152 (by decide) ?_
              refine z_land X dL_areLegs_153 ?_
              refine z_lconst (v := 0) X dL_areLegs_154 (by decide) ?_
              refine z_lcmp X dL_areLegs_155 ?_
              refine z_if_ne (tgt := 201) X dL_areLegs_156 (by decide) (fun q => ?_) (fun q => ?_)
              · have h := zp q h
                refine zz.pick (lo' := [(0, .ref ob), (1, .ref (ar 0)), (2, .ref (ar 1)), (3, .ref (ar 2)), (7, .int (v7)), (8, .int (v8)), (10, .int (v10)), (11, .int (s0))]) [0, 1, 2, 3, 7, 8, 10, 11] rfl ?_
                exact bl_areLegs_159 X Y hml hr hk33 h
              · have h := zn q h
                refine zz.pick (lo' := [(0, .ref ob), (1, .ref (ar 0)), (2, .ref (ar 1)), (3, .ref (ar 2)), (7, .int (v7)), (8, .int (v8)), (10, .int (v10)), (11, .int (s0))]) [0, 1, 2, 3, 7, 8, 10, 11] rfl ?_
                exact bl_areLegs_201 X Y hml hr hk33 h
            · have h := zn q h
              refine zz.pick (lo' := [(0, .ref ob), (1, .ref (ar 0)), (2, .ref (ar 1)), (3, .ref (ar 2)), (7, .int (v7)), (8, .int (v8)), (10, .int (v10)), (11, .int (s0))]) [0, 1, 2, 3, 7, 8, 10, 11] rfl ?_
              exact bl_areLegs_201 X Y hml hr hk33 h
          · have h := zn q h
            refine zz.pick (lo' := [(0, .ref ob), (1, .ref (ar 0)), (2, .ref (ar 1)), (3, .ref (ar 2)), (7, .int (v7)), (8, .int (v8)), (10, .int (v10)), (11, .int (s0))]) [0, 1, 2, 3, 7, 8, 10, 11] rfl ?_
            exact bl_areLegs_201 X Y hml hr hk33 h
        · have h := zn q h
          refine zz.pick (lo' := [(0, .ref ob), (1, .ref (ar 0)), (2, .ref (ar 1)), (3, .ref (ar 2)), (7, .int (v7)), (8, .int (v8)), (10, .int (v10)), (11, .int (s0))]) [0, 1, 2, 3, 7, 8, 10, 11] rfl ?_
          exact bl_areLegs_201 X Y hml hr hk33 h
      · have h := zn q h
        refine zz.pick (lo' := [(0, .ref ob), (1, .ref (ar 0)), (2, .ref (ar 1)), (3, .ref (ar 2)), (7, .int (v7)), (8, .int (v8)), (10, .int (v10)), (11, .int (s0))]) [0, 1, 2, 3, 7, 8, 10, 11] rfl ?_
        exact bl_areLegs_159 X Y hml hr hk33 h
def fl_areLegs_33 : Nat → GS → Int32 → Int32 → Int64 → Option (GS × Int32)
  | 0, _, _, _, _ => none
  | n + 1, σ, v6, v7, u4 => (if (σ.2 2 (2).toNatClampNeg) ≤ v7 then fl_areLegs_371 σ v6 (u4)
  else (if v6 = 0 then fl_areLegs_371 σ v6 (u4)
  else if v7 < 0 ∨ 64 ≤ (v7).toNatClampNeg then none else (fl_part σ ((σ.2 0 (v7).toNatClampNeg)) (0) (4)).bind fun o2 => (aq_stateOf σ.1 (v7)).bind fun o3 => if v7 < 0 ∨ 64 ≤ (v7).toNatClampNeg then none else (some (((σ.2 0 (v7).toNatClampNeg) >>> (14 &&& 31)))).bind fun x5 => (if o3 ≤ 0 then fl_areLegs_84 (fl_areLegs_33 n) σ v7 o2 o3 x5 (u4) 0
  else fl_areLegs_84 (fl_areLegs_33 n) σ v7 o2 o3 x5 (u4) 1)))
set_option maxRecDepth 100000 in
set_option maxHeartbeats 4000000 in
theorem bl_areLegs_33 {p : Program} {l : Launch} {e : Env} {s : State} {m : MethodId} {args : Array Value} {below : List Frame} {meth : Method} {c : Code} {D : va_G} {dA : Nat → ClassId} {A : Nat → Prop} {ar : Nat → Nat} {ob b Ls : Nat} {sc : Nat → Int32} {o : GS × Int32} (X : zc p l s m args meth c cL_areLegs RL D dA A) (Y : zY s A b Ls sc) (hml : c.maxLocals = 12) (hr : meth.sig.returnType = (some .boolean)) : ∀ (n : Nat) {σ : GS} {v6 : Int32} {v7 : Int32} {u4 : Int64}, fl_areLegs_33 n σ v6 v7 u4 = some o → zz p l e ({ frames := 12, cells := 0, slots := 0, locals := 504 } : Room) s m args below meth c A (gw D dA A σ ob ar) 0 0 (MQ below (va_Qi (fun r (_ : Unit) => r = o.2 ∧ True) (fun _ t => gw D dA A o.1 ob ar t.heap) A) args s (0) (0) A) 33 [(0, .ref ob), (1, .ref (ar 0)), (2, .ref (ar 1)), (3, .ref (ar 2)), (6, .int (v6)), (7, .int (v7))] [(4, u4)] [] := by
  intro n
  induction n with
  | zero => intro σ v6 v7 u4 h; exact (nomatch (show none = some o from h))
  | succ n ih =>
    intro σ v6 v7 u4 h
    rw [fl_areLegs_33] at h
    refine z_iload X dL_areLegs_33 rfl ?_
    refine z_aload_n X dL_areLegs_35 rfl rfl ?_
    refine z_iconst (v := 2) X dL_areLegs_36 (by decide) ?_
    refine l_ald X 2 rfl (by decide) dL_areLegs_37 ?_
    refine z_icmp_ge (tgt := 371) X dL_areLegs_38 (by decide) (fun q => ?_) (fun q => ?_)
    · have h := zp q h
      refine zz.pick (lo' := [(0, .ref ob), (6, .int (v6))]) [0, 6] rfl ?_
      exact bl_areLegs_371 X Y hml hr h
    · have h := zn q h
      refine z_iload X dL_areLegs_41 rfl ?_
      refine z_if_eq (tgt := 371) X dL_areLegs_43 (by decide) (fun q => ?_) (fun q => ?_)
      · have h := zp q h
        refine zz.pick (lo' := [(0, .ref ob), (6, .int (v6))]) [0, 6] rfl ?_
        exact bl_areLegs_371 X Y hml hr h
      · have h := zn q h
        refine z_aload_n X dL_areLegs_46 rfl rfl ?_
        refine z_iload X dL_areLegs_47 rfl ?_
        obtain ⟨q1, h⟩ := zg h
        refine l_ald X 0 rfl q1 dL_areLegs_49 ?_
        refine z_iconst (v := 0) X dL_areLegs_50 (by decide) ?_
        refine z_iconst (v := 4) X dL_areLegs_51 (by decide) ?_
        obtain ⟨o2, co2, h⟩ := zb2 h
        refine z_lSi (As := [.int ((σ.2 0 (v7).toNatClampNeg)), .int (0), .int (4)]) (rest := []) (nA := 3) (mc := 0) (ms := 0) (r0 := o2) (pu := fun (_ : Unit) => True) (G1 := fun _ => gw D dA A σ ob ar) X Y (ll_part l X.2.2.2.2.2.2.2.2 X.2.2.2.2.2.2.1 Y.2.2.2 co2) n_784 n_785 n_0 n_786 nh_yL_part ⟨rfl, rfl, Nat.le_of_ble_eq_true rfl, Nat.le_of_ble_eq_true rfl⟩ rfl rfl (Nat.le_of_ble_eq_true rfl) dL_areLegs_52 ⟨by show _ ≤ 0; omega, by show _ ≤ 0; omega⟩ (fun _ _ => ?_)
        refine z_istore (lo' := [(8, .int (o2)), (0, .ref ob), (1, .ref (ar 0)), (2, .ref (ar 1)), (3, .ref (ar 2)), (6, .int (v6)), (7, .int (v7))]) X dL_areLegs_55 (by rw [hml]; decide) rfl rfl ?_
        refine z_aload_n X dL_areLegs_57 rfl rfl ?_
        refine z_iload X dL_areLegs_58 rfl ?_
        obtain ⟨o3, co3, h⟩ := zb2 h
        refine l_q (As := [.int (v7)]) (rest := []) (nA := 1) (mc := 0) (ms := 0) (rm := ({ frames := 10, cells := 0, slots := 0, locals := 420 } : Room)) (r0 := o3) X (fun _ h11 => cz_stateOf l X.2.2.2.2.2.2.2.2 X.2.2.2.2.2.2.1 h11 (fun _ z => nomatch z) (qo_eq co3)) n_775 n_776 n_777 n_1 n_778 nh_yX11_stateOf ⟨rfl, rfl, Nat.le_of_ble_eq_true rfl, Nat.le_of_ble_eq_true rfl⟩ rfl rfl (Nat.le_of_ble_eq_true rfl) dL_areLegs_60 ⟨by show _ ≤ 0; omega, by show _ ≤ 0; omega⟩ ?_
        refine z_istore (lo' := [(9, .int (o3)), (8, .int (o2)), (0, .ref ob), (1, .ref (ar 0)), (2, .ref (ar 1)), (3, .ref (ar 2)), (6, .int (v6)), (7, .int (v7))]) X dL_areLegs_63 (by rw [hml]; decide) rfl rfl ?_
        refine z_aload_n X dL_areLegs_65 rfl rfl ?_
        refine z_iload X dL_areLegs_66 rfl ?_
        obtain ⟨q4, h⟩ := zg h
        refine l_ald X 0 rfl q4 dL_areLegs_68 ?_
        refine z_bipush (v := 14) X dL_areLegs_69 (by decide) ?_
        refine z_ishr X dL_areLegs_71 ?_
        obtain ⟨x5, ex5, h⟩ := zb h
        rw [ex5]
        refine z_istore (lo' := [(10, .int (x5)), (9, .int (o3)), (8, .int (o2)), (0, .ref ob), (1, .ref (ar 0)), (2, .ref (ar 1)), (3, .ref (ar 2)), (6, .int (v6)), (7, .int (v7))]) X dL_areLegs_72 (by rw [hml]; decide) rfl rfl ?_
        refine z_iload X dL_areLegs_74 rfl ?_
        refine z_if_le (tgt := 83) X dL_areLegs_76 (by decide) (fun q => ?_) (fun q => ?_)
        · have h := zp q h
          refine z_iconst (v := 0) X dL_areLegs_83 (by decide) ?_
          refine zz.pick (lo' := [(0, .ref ob), (1, .ref (ar 0)), (2, .ref (ar 1)), (3, .ref (ar 2)), (7, .int (v7)), (8, .int (o2)), (9, .int (o3)), (10, .int (x5))]) [0, 1, 2, 3, 7, 8, 9, 10] rfl ?_
          exact bl_areLegs_84 X Y hml hr ih h
        · have h := zn q h
          refine z_iconst (v := 1) X dL_areLegs_79 (by decide) ?_
          refine z_goto (tgt := 84) X dL_areLegs_80 (by decide) ?_
          refine zz.pick (lo' := [(0, .ref ob), (1, .ref (ar 0)), (2, .ref (ar 1)), (3, .ref (ar 2)), (7, .int (v7)), (8, .int (o2)), (9, .int (o3)), (10, .int (x5))]) [0, 1, 2, 3, 7, 8, 9, 10] rfl ?_
          exact bl_areLegs_84 X Y hml hr ih h
def fl_areLegs_28 (σ : GS) (u4 : Int64) (s0 : Int32) : Option (GS × Int32) := fl_areLegs_33 FU σ s0 0 (u4)
set_option maxRecDepth 100000 in
set_option maxHeartbeats 4000000 in
theorem bl_areLegs_28 {p : Program} {l : Launch} {e : Env} {s : State} {m : MethodId} {args : Array Value} {below : List Frame} {meth : Method} {c : Code} {D : va_G} {dA : Nat → ClassId} {A : Nat → Prop} {ar : Nat → Nat} {ob b Ls : Nat} {sc : Nat → Int32} {o : GS × Int32} (X : zc p l s m args meth c cL_areLegs RL D dA A) (Y : zY s A b Ls sc) (hml : c.maxLocals = 12) (hr : meth.sig.returnType = (some .boolean)) {σ : GS} {u4 : Int64} {s0 : Int32} (h : fl_areLegs_28 σ u4 s0 = some o) : zz p l e ({ frames := 12, cells := 0, slots := 0, locals := 504 } : Room) s m args below meth c A (gw D dA A σ ob ar) 0 0 (MQ below (va_Qi (fun r (_ : Unit) => r = o.2 ∧ True) (fun _ t => gw D dA A o.1 ob ar t.heap) A) args s (0) (0) A) 28 [(0, .ref ob), (1, .ref (ar 0)), (2, .ref (ar 1)), (3, .ref (ar 2))] [(4, u4)] [.int (s0)] := by
  unfold fl_areLegs_28 at h
  refine z_istore (lo' := [(6, .int (s0)), (0, .ref ob), (1, .ref (ar 0)), (2, .ref (ar 1)), (3, .ref (ar 2))]) X dL_areLegs_28 (by rw [hml]; decide) rfl rfl ?_
  refine z_iconst (v := 0) X dL_areLegs_30 (by decide) ?_
  refine z_istore (lo' := [(7, .int (0)), (6, .int (s0)), (0, .ref ob), (1, .ref (ar 0)), (2, .ref (ar 1)), (3, .ref (ar 2))]) X dL_areLegs_31 (by rw [hml]; decide) rfl rfl ?_
  refine zz.pick (lo' := [(0, .ref ob), (1, .ref (ar 0)), (2, .ref (ar 1)), (3, .ref (ar 2)), (6, .int (s0)), (7, .int (0))]) [0, 1, 2, 3, 6, 7] rfl ?_
  exact bl_areLegs_33 X Y hml hr FU h
def fl_areLegs_27 (σ : GS) (u4 : Int64) : Option (GS × Int32) := fl_areLegs_28 σ (u4) 0
set_option maxRecDepth 100000 in
set_option maxHeartbeats 4000000 in
theorem bl_areLegs_27 {p : Program} {l : Launch} {e : Env} {s : State} {m : MethodId} {args : Array Value} {below : List Frame} {meth : Method} {c : Code} {D : va_G} {dA : Nat → ClassId} {A : Nat → Prop} {ar : Nat → Nat} {ob b Ls : Nat} {sc : Nat → Int32} {o : GS × Int32} (X : zc p l s m args meth c cL_areLegs RL D dA A) (Y : zY s A b Ls sc) (hml : c.maxLocals = 12) (hr : meth.sig.returnType = (some .boolean)) {σ : GS} {u4 : Int64} (h : fl_areLegs_27 σ u4 = some o) : zz p l e ({ frames := 12, cells := 0, slots := 0, locals := 504 } : Room) s m args below meth c A (gw D dA A σ ob ar) 0 0 (MQ below (va_Qi (fun r (_ : Unit) => r = o.2 ∧ True) (fun _ t => gw D dA A o.1 ob ar t.heap) A) args s (0) (0) A) 27 [(0, .ref ob), (1, .ref (ar 0)), (2, .ref (ar 1)), (3, .ref (ar 2))] [(4, u4)] [] := by
  unfold fl_areLegs_27 at h
  refine z_iconst (v := 0) X dL_areLegs_27 (by decide) ?_
  refine zz.pick (lo' := [(0, .ref ob), (1, .ref (ar 0)), (2, .ref (ar 1)), (3, .ref (ar 2))]) [0, 1, 2, 3] rfl ?_
  exact bl_areLegs_28 X Y hml hr h
def fl_areLegs (σ : GS)  : Option (GS × Int32) := (aq_legs σ.1).bind fun o1 => (if o1 = (σ.2 2 (2).toNatClampNeg) then (aq_now σ.1).bind fun o2 => (if o2 = (σ.2 2 (0).toNatClampNeg) then fl_areLegs_28 σ (0) 1
  else fl_areLegs_27 σ (0))
  else fl_areLegs_27 σ (0))
set_option maxRecDepth 100000 in
set_option maxHeartbeats 4000000 in
theorem bl_areLegs {p : Program} {l : Launch} {e : Env} {s : State} {m : MethodId} {args : Array Value} {below : List Frame} {meth : Method} {c : Code} {D : va_G} {dA : Nat → ClassId} {A : Nat → Prop} {ar : Nat → Nat} {ob b Ls : Nat} {sc : Nat → Int32} {o : GS × Int32} (X : zc p l s m args meth c cL_areLegs RL D dA A) (Y : zY s A b Ls sc) (hml : c.maxLocals = 12) (hr : meth.sig.returnType = (some .boolean)) {σ : GS}  (h : fl_areLegs σ = some o) : zz p l e ({ frames := 12, cells := 0, slots := 0, locals := 504 } : Room) s m args below meth c A (gw D dA A σ ob ar) 0 0 (MQ below (va_Qi (fun r (_ : Unit) => r = o.2 ∧ True) (fun _ t => gw D dA A o.1 ob ar t.heap) A) args s (0) (0) A) 0 [(0, .ref ob), (1, .ref (ar 0)), (2, .ref (ar 1)), (3, .ref (ar 2))] [] [] := by
  unfold fl_areLegs at h
  refine z_lconst (v := 0) X dL_areLegs_0 (by decide) ?_
  refine z_lstore X dL_areLegs_1 (by rw [hml]; decide) (lo' := [(0, .ref ob), (1, .ref (ar 0)), (2, .ref (ar 1)), (3, .ref (ar 2))]) (ll' := [(4, 0)]) rfl rfl ?_
  refine z_aload_n X dL_areLegs_3 rfl rfl ?_
  obtain ⟨o1, co1, h⟩ := zb2 h
  refine l_m (As := []) (rest := []) (nA := 0) (mc := 0) (ms := 0) (rm := ({ frames := 9, cells := 0, slots := 0, locals := 378 } : Room)) (r0 := o1) X (fun _ h11 => cc_legs l X.2.2.2.2.2.2.2.2 X.2.2.2.2.2.2.1 h11 co1) n_896 n_897 n_898 n_1 n_899 nh_yX11_legs ⟨rfl, rfl, Nat.le_of_ble_eq_true rfl, Nat.le_of_ble_eq_true rfl⟩ rfl rfl (Nat.le_of_ble_eq_true rfl) dL_areLegs_4 ⟨by show _ ≤ 0; omega, by show _ ≤ 0; omega⟩ ?_
  refine z_aload_n X dL_areLegs_7 rfl rfl ?_
  refine z_iconst (v := 2) X dL_areLegs_8 (by decide) ?_
  refine l_ald X 2 rfl (by decide) dL_areLegs_9 ?_
  refine z_icmp_ne (tgt := 27) X dL_areLegs_10 (by decide) (fun q => ?_) (fun q => ?_)
  · have h := zp q h
    refine z_aload_n X dL_areLegs_13 rfl rfl ?_
    obtain ⟨o2, co2, h⟩ := zb2 h
    refine l_m (As := []) (rest := []) (nA := 0) (mc := 0) (ms := 0) (rm := ({ frames := 1, cells := 0, slots := 0, locals := 42 } : Room)) (r0 := o2) X (fun _ h11 => cc_now l X.2.2.2.2.2.2.2.2 X.2.2.2.2.2.2.1 h11 co2) n_900 n_901 n_902 n_1 n_903 nh_yX11_now ⟨rfl, rfl, Nat.le_of_ble_eq_true rfl, Nat.le_of_ble_eq_true rfl⟩ rfl rfl (Nat.le_of_ble_eq_true rfl) dL_areLegs_14 ⟨by show _ ≤ 0; omega, by show _ ≤ 0; omega⟩ ?_
    refine z_aload_n X dL_areLegs_17 rfl rfl ?_
    refine z_iconst (v := 0) X dL_areLegs_18 (by decide) ?_
    refine l_ald X 2 rfl (by decide) dL_areLegs_19 ?_
    refine z_icmp_ne (tgt := 27) X dL_areLegs_20 (by decide) (fun q => ?_) (fun q => ?_)
    · have h := zp q h
      refine z_iconst (v := 1) X dL_areLegs_23 (by decide) ?_
      refine z_goto (tgt := 28) X dL_areLegs_24 (by decide) ?_
      refine zz.pick (lo' := [(0, .ref ob), (1, .ref (ar 0)), (2, .ref (ar 1)), (3, .ref (ar 2))]) [0, 1, 2, 3] rfl ?_
      exact bl_areLegs_28 X Y hml hr h
    · have h := zn q h
      refine zz.pick (lo' := [(0, .ref ob), (1, .ref (ar 0)), (2, .ref (ar 1)), (3, .ref (ar 2))]) [0, 1, 2, 3] rfl ?_
      exact bl_areLegs_27 X Y hml hr h
  · have h := zn q h
    refine zz.pick (lo' := [(0, .ref ob), (1, .ref (ar 0)), (2, .ref (ar 1)), (3, .ref (ar 2))]) [0, 1, 2, 3] rfl ?_
    exact bl_areLegs_27 X Y hml hr h
theorem ll_areLegs (l : Launch) {D : va_G} {dA : Nat → ClassId} {A : Nat → Prop} {n : Nat} {ar : Nat → Nat} {ob b Ls : Nat} {sc : Nat → Int32} (hst : l.stackTraces = false) (hA : ∀ q, n ≤ q → A q) (hbA : ¬ A b) {σ : GS}  {o : GS × Int32} (h : fl_areLegs σ = some o) : Met l yL_areLegs (.code yL_areLegs cL_areLegs 12 (some .boolean) :: gT) ({ frames := 12, cells := 0, slots := 0, locals := 504 } : Room) (va_Pc [.ref ob, .ref (ar 0), .ref (ar 1), .ref (ar 2)] (zBL D dA A n b Ls sc (gw D dA A σ ob ar))) (va_Qi (fun r (_ : Unit) => r = o.2 ∧ True) (fun _ t => gw D dA A o.1 ob ar t.heap) A) (0) (0) A :=
  z_metL (by decide) hA hbA hst (Nat.le_of_ble_eq_true rfl) rfl rfl (fun p e s m below meth c X Y hml hr => bl_areLegs X Y hml hr h)
-- areCalls(LMeshBiller;[I[I)Z
def fl_areCalls_146 (k5 : GS → Int32 → Int32 → Option (Int32)) (σ : GS) (v4 : Int32) (s0 : Int32) : Option (Int32) := (some (v4 + 1)).bind fun x1 => k5 σ s0 x1
set_option maxRecDepth 100000 in
set_option maxHeartbeats 4000000 in
theorem bl_areCalls_146 {p : Program} {l : Launch} {e : Env} {s : State} {m : MethodId} {args : Array Value} {below : List Frame} {meth : Method} {c : Code} {D : va_G} {dA : Nat → ClassId} {A : Nat → Prop} {ar : Nat → Nat} {ob b Ls : Nat} {sc : Nat → Int32} {σ : GS} {o : Int32} (X : zc p l s m args meth c cL_areCalls RL D dA A) (Y : zY s A b Ls sc) (hml : c.maxLocals = 9) (hr : meth.sig.returnType = (some .boolean)) {k5 : GS → Int32 → Int32 → Option (Int32)} (hk5 : ∀ {v3 : Int32} {v4 : Int32}, k5 σ v3 v4 = some o → zz p l e ({ frames := 11, cells := 0, slots := 0, locals := 462 } : Room) s m args below meth c A (gw D dA A σ ob ar) 0 0 (MQ below (va_Qi (fun r (_ : Unit) => r = o ∧ True) (fun _ t => gw D dA A σ ob ar t.heap) A) args s (0) (0) A) 5 [(0, .ref ob), (1, .ref (ar 0)), (2, .ref (ar 2)), (3, .int (v3)), (4, .int (v4))] [] []) {v4 : Int32} {s0 : Int32} (h : fl_areCalls_146 k5 σ v4 s0 = some o) : zz p l e ({ frames := 11, cells := 0, slots := 0, locals := 462 } : Room) s m args below meth c A (gw D dA A σ ob ar) 0 0 (MQ below (va_Qi (fun r (_ : Unit) => r = o ∧ True) (fun _ t => gw D dA A σ ob ar t.heap) A) args s (0) (0) A) 146 [(0, .ref ob), (1, .ref (ar 0)), (2, .ref (ar 2)), (4, .int (v4))] [] [.int (s0)] := by
  unfold fl_areCalls_146 at h
  refine z_istore_n (lo' := [(3, .int (s0)), (0, .ref ob), (1, .ref (ar 0)), (2, .ref (ar 2)), (4, .int (v4))]) X dL_areCalls_146 rfl (by rw [hml]; decide) rfl rfl ?_
  obtain ⟨x1, ex1, h⟩ := zb h
  refine z_iinc (v := x1) (lo' := [(4, .int (x1)), (3, .int (s0)), (0, .ref ob), (1, .ref (ar 0)), (2, .ref (ar 2))]) X dL_areCalls_147 rfl ex1 (by rw [hml]; decide) rfl rfl ?_
  refine z_goto (tgt := 5) X dL_areCalls_150 (by decide) ?_
  refine zz.pick (lo' := [(0, .ref ob), (1, .ref (ar 0)), (2, .ref (ar 2)), (3, .int (s0)), (4, .int (x1))]) [0, 1, 2, 3, 4] rfl ?_
  exact hk5  h
def fl_areCalls_145 (k5 : GS → Int32 → Int32 → Option (Int32)) (σ : GS) (v4 : Int32) : Option (Int32) := fl_areCalls_146 k5 σ v4 0
set_option maxRecDepth 100000 in
set_option maxHeartbeats 4000000 in
theorem bl_areCalls_145 {p : Program} {l : Launch} {e : Env} {s : State} {m : MethodId} {args : Array Value} {below : List Frame} {meth : Method} {c : Code} {D : va_G} {dA : Nat → ClassId} {A : Nat → Prop} {ar : Nat → Nat} {ob b Ls : Nat} {sc : Nat → Int32} {σ : GS} {o : Int32} (X : zc p l s m args meth c cL_areCalls RL D dA A) (Y : zY s A b Ls sc) (hml : c.maxLocals = 9) (hr : meth.sig.returnType = (some .boolean)) {k5 : GS → Int32 → Int32 → Option (Int32)} (hk5 : ∀ {v3 : Int32} {v4 : Int32}, k5 σ v3 v4 = some o → zz p l e ({ frames := 11, cells := 0, slots := 0, locals := 462 } : Room) s m args below meth c A (gw D dA A σ ob ar) 0 0 (MQ below (va_Qi (fun r (_ : Unit) => r = o ∧ True) (fun _ t => gw D dA A σ ob ar t.heap) A) args s (0) (0) A) 5 [(0, .ref ob), (1, .ref (ar 0)), (2, .ref (ar 2)), (3, .int (v3)), (4, .int (v4))] [] []) {v4 : Int32} (h : fl_areCalls_145 k5 σ v4 = some o) : zz p l e ({ frames := 11, cells := 0, slots := 0, locals := 462 } : Room) s m args below meth c A (gw D dA A σ ob ar) 0 0 (MQ below (va_Qi (fun r (_ : Unit) => r = o ∧ True) (fun _ t => gw D dA A σ ob ar t.heap) A) args s (0) (0) A) 145 [(0, .ref ob), (1, .ref (ar 0)), (2, .ref (ar 2)), (4, .int (v4))] [] [] := by
  unfold fl_areCalls_145 at h
  refine z_iconst (v := 0) X dL_areCalls_145 (by decide) ?_
  refine zz.pick (lo' := [(0, .ref ob), (1, .ref (ar 0)), (2, .ref (ar 2)), (4, .int (v4))]) [0, 1, 2, 4] rfl ?_
  exact bl_areCalls_146 X Y hml hr hk5 h
def fl_areCalls_93 (k5 : GS → Int32 → Int32 → Option (Int32)) (k30 : GS → Int32 → Int32 → Int32 → Int64 → Option (Int32)) (σ : GS) (v4 : Int32) (v5 : Int32) (v8 : Int32) (u6 : Int64) : Option (Int32) := (some (v8 + 1)).bind fun x1 => k30 σ v4 v5 x1 (u6)
set_option maxRecDepth 100000 in
set_option maxHeartbeats 4000000 in
theorem bl_areCalls_93 {p : Program} {l : Launch} {e : Env} {s : State} {m : MethodId} {args : Array Value} {below : List Frame} {meth : Method} {c : Code} {D : va_G} {dA : Nat → ClassId} {A : Nat → Prop} {ar : Nat → Nat} {ob b Ls : Nat} {sc : Nat → Int32} {σ : GS} {o : Int32} (X : zc p l s m args meth c cL_areCalls RL D dA A) (Y : zY s A b Ls sc) (hml : c.maxLocals = 9) (hr : meth.sig.returnType = (some .boolean)) {k5 : GS → Int32 → Int32 → Option (Int32)} (hk5 : ∀ {v3 : Int32} {v4 : Int32}, k5 σ v3 v4 = some o → zz p l e ({ frames := 11, cells := 0, slots := 0, locals := 462 } : Room) s m args below meth c A (gw D dA A σ ob ar) 0 0 (MQ below (va_Qi (fun r (_ : Unit) => r = o ∧ True) (fun _ t => gw D dA A σ ob ar t.heap) A) args s (0) (0) A) 5 [(0, .ref ob), (1, .ref (ar 0)), (2, .ref (ar 2)), (3, .int (v3)), (4, .int (v4))] [] []) {k30 : GS → Int32 → Int32 → Int32 → Int64 → Option (Int32)} (hk30 : ∀ {v4 : Int32} {v5 : Int32} {v8 : Int32} {u6 : Int64}, k30 σ v4 v5 v8 u6 = some o → zz p l e ({ frames := 11, cells := 0, slots := 0, locals := 462 } : Room) s m args below meth c A (gw D dA A σ ob ar) 0 0 (MQ below (va_Qi (fun r (_ : Unit) => r = o ∧ True) (fun _ t => gw D dA A σ ob ar t.heap) A) args s (0) (0) A) 30 [(0, .ref ob), (1, .ref (ar 0)), (2, .ref (ar 2)), (4, .int (v4)), (5, .int (v5)), (8, .int (v8))] [(6, u6)] []) {v4 : Int32} {v5 : Int32} {v8 : Int32} {u6 : Int64} (h : fl_areCalls_93 k5 k30 σ v4 v5 v8 u6 = some o) : zz p l e ({ frames := 11, cells := 0, slots := 0, locals := 462 } : Room) s m args below meth c A (gw D dA A σ ob ar) 0 0 (MQ below (va_Qi (fun r (_ : Unit) => r = o ∧ True) (fun _ t => gw D dA A σ ob ar t.heap) A) args s (0) (0) A) 93 [(0, .ref ob), (1, .ref (ar 0)), (2, .ref (ar 2)), (4, .int (v4)), (5, .int (v5)), (8, .int (v8))] [(6, u6)] [] := by
  unfold fl_areCalls_93 at h
  obtain ⟨x1, ex1, h⟩ := zb h
  refine z_iinc (v := x1) (lo' := [(8, .int (x1)), (0, .ref ob), (1, .ref (ar 0)), (2, .ref (ar 2)), (4, .int (v4)), (5, .int (v5))]) X dL_areCalls_93 rfl ex1 (by rw [hml]; decide) rfl rfl ?_
  refine z_goto (tgt := 30) X dL_areCalls_96 (by decide) ?_
  refine zz.pick (lo' := [(0, .ref ob), (1, .ref (ar 0)), (2, .ref (ar 2)), (4, .int (v4)), (5, .int (v5)), (8, .int (x1))]) [0, 1, 2, 4, 5, 8] rfl ?_
  exact hk30  h
def fl_areCalls_69 (k5 : GS → Int32 → Int32 → Option (Int32)) (k30 : GS → Int32 → Int32 → Int32 → Int64 → Option (Int32)) (σ : GS) (v4 : Int32) (v8 : Int32) (u6 : Int64) (s0 : Int32) (s1 : Int32) : Option (Int32) := (some ((s0 + s1))).bind fun x1 => (aq_seal σ.1 (v8)).bind fun o2 => (some ((((u6 <<< ((7 : Int32).toInt64 &&& 63)) ||| (((u6 : Int64).toUInt64 >>> (((57 : Int32).toInt64).toUInt64 &&& Int64.toUInt64 63)).toInt64)) + (o2 : Int32).toInt64))).bind fun x3 => fl_areCalls_93 k5 k30 σ v4 x1 v8 (x3)
set_option maxRecDepth 100000 in
set_option maxHeartbeats 4000000 in
theorem bl_areCalls_69 {p : Program} {l : Launch} {e : Env} {s : State} {m : MethodId} {args : Array Value} {below : List Frame} {meth : Method} {c : Code} {D : va_G} {dA : Nat → ClassId} {A : Nat → Prop} {ar : Nat → Nat} {ob b Ls : Nat} {sc : Nat → Int32} {σ : GS} {o : Int32} (X : zc p l s m args meth c cL_areCalls RL D dA A) (Y : zY s A b Ls sc) (hml : c.maxLocals = 9) (hr : meth.sig.returnType = (some .boolean)) {k5 : GS → Int32 → Int32 → Option (Int32)} (hk5 : ∀ {v3 : Int32} {v4 : Int32}, k5 σ v3 v4 = some o → zz p l e ({ frames := 11, cells := 0, slots := 0, locals := 462 } : Room) s m args below meth c A (gw D dA A σ ob ar) 0 0 (MQ below (va_Qi (fun r (_ : Unit) => r = o ∧ True) (fun _ t => gw D dA A σ ob ar t.heap) A) args s (0) (0) A) 5 [(0, .ref ob), (1, .ref (ar 0)), (2, .ref (ar 2)), (3, .int (v3)), (4, .int (v4))] [] []) {k30 : GS → Int32 → Int32 → Int32 → Int64 → Option (Int32)} (hk30 : ∀ {v4 : Int32} {v5 : Int32} {v8 : Int32} {u6 : Int64}, k30 σ v4 v5 v8 u6 = some o → zz p l e ({ frames := 11, cells := 0, slots := 0, locals := 462 } : Room) s m args below meth c A (gw D dA A σ ob ar) 0 0 (MQ below (va_Qi (fun r (_ : Unit) => r = o ∧ True) (fun _ t => gw D dA A σ ob ar t.heap) A) args s (0) (0) A) 30 [(0, .ref ob), (1, .ref (ar 0)), (2, .ref (ar 2)), (4, .int (v4)), (5, .int (v5)), (8, .int (v8))] [(6, u6)] []) {v4 : Int32} {v8 : Int32} {u6 : Int64} {s0 : Int32} {s1 : Int32} (h : fl_areCalls_69 k5 k30 σ v4 v8 u6 s0 s1 = some o) : zz p l e ({ frames := 11, cells := 0, slots := 0, locals := 462 } : Room) s m args below meth c A (gw D dA A σ ob ar) 0 0 (MQ below (va_Qi (fun r (_ : Unit) => r = o ∧ True) (fun _ t => gw D dA A σ ob ar t.heap) A) args s (0) (0) A) 69 [(0, .ref ob), (1, .ref (ar 0)), (2, .ref (ar 2)), (4, .int (v4)), (8, .int (v8))] [(6, u6)] [.int (s1), .int (s0)] := by
  unfold fl_areCalls_69 at h
  refine z_iadd X dL_areCalls_69 ?_
  obtain ⟨x1, ex1, h⟩ := zb h
  rw [ex1]
  refine z_istore (lo' := [(5, .int (x1)), (0, .ref ob), (1, .ref (ar 0)), (2, .ref (ar 2)), (4, .int (v4)), (8, .int (v8))]) X dL_areCalls_70 (by rw [hml]; decide) rfl rfl ?_
  refine z_lload X dL_areCalls_72 rfl ?_
  refine z_bipush (v := 7) X dL_areCalls_74 (by decide) ?_
  refine z_lshl X dL_areCalls_76 ?_
  refine z_lload X dL_areCalls_77 rfl ?_
  refine z_bipush (v := 57) X dL_areCalls_79 (by decide) ?_
  refine z_lushr X dL_areCalls_81 ?_
  refine z_lor X dL_areCalls_82 ?_
  refine z_aload_n X dL_areCalls_83 rfl rfl ?_
  refine z_iload X dL_areCalls_84 rfl ?_
  obtain ⟨o2, co2, h⟩ := zb2 h
  refine l_q (As := [.int (v8)]) (rest := [.long (((u6 <<< ((7 : Int32).toInt64 &&& 63)) ||| (((u6 : Int64).toUInt64 >>> (((57 : Int32).toInt64).toUInt64 &&& Int64.toUInt64 63)).toInt64)))]) (nA := 1) (mc := 0) (ms := 0) (rm := ({ frames := 10, cells := 0, slots := 0, locals := 420 } : Room)) (r0 := o2) X (fun _ h11 => cz_seal l X.2.2.2.2.2.2.2.2 X.2.2.2.2.2.2.1 h11 (fun _ z => nomatch z) (qo_eq co2)) n_908 n_909 n_910 n_1 n_911 nh_yX11_seal ⟨rfl, rfl, Nat.le_of_ble_eq_true rfl, Nat.le_of_ble_eq_true rfl⟩ rfl rfl (Nat.le_of_ble_eq_true rfl) dL_areCalls_86 ⟨by show _ ≤ 0; omega, by show _ ≤ 0; omega⟩ ?_
  refine z_i2l X dL_areCalls_89 ?_
  refine z_ladd X dL_areCalls_90 ?_
  obtain ⟨x3, ex3, h⟩ := zb h
  rw [ex3]
  refine z_lstore X dL_areCalls_91 (by rw [hml]; decide) (lo' := [(5, .int (x1)), (0, .ref ob), (1, .ref (ar 0)), (2, .ref (ar 2)), (4, .int (v4)), (8, .int (v8))]) (ll' := [(6, x3)]) rfl rfl ?_
  refine zz.pick (lo' := [(0, .ref ob), (1, .ref (ar 0)), (2, .ref (ar 2)), (4, .int (v4)), (5, .int (x1)), (8, .int (v8))]) [0, 1, 2, 4, 5, 8] rfl ?_
  exact bl_areCalls_93 X Y hml hr hk5 hk30 h
def fl_areCalls_30 (k5 : GS → Int32 → Int32 → Option (Int32)) : Nat → GS → Int32 → Int32 → Int32 → Int64 → Option (Int32)
  | 0, _, _, _, _, _ => none
  | n + 1, σ, v4, v5, v8, u6 => (if (σ.2 2 (2).toNatClampNeg) ≤ v8 then (aq_parties σ.1 (v4)).bind fun o1 => (if o1 = v5 then (if v5 = 1 then fl_areCalls_145 k5 σ v4
  else (if 5 ≤ v5 then fl_areCalls_145 k5 σ v4
  else (aq_stamp σ.1 (v4)).bind fun o2 => (if o2 = (((u6 >>> ((32 : Int32).toInt64 &&& 63)) : Int64).toInt32 ^^^ (u6 : Int64).toInt32) then fl_areCalls_146 k5 σ v4 1
  else fl_areCalls_145 k5 σ v4)))
  else fl_areCalls_145 k5 σ v4)
  else if v8 < 0 ∨ 64 ≤ (v8).toNatClampNeg then none else (fl_part σ ((σ.2 0 (v8).toNatClampNeg)) (4) (6)).bind fun o4 => (if o4 = v4 then (aq_stateOf σ.1 (v8)).bind fun o5 => (if o5 = 0 then fl_areCalls_69 k5 (fl_areCalls_30 k5 n) σ v4 v8 (u6) v5 1
  else fl_areCalls_69 k5 (fl_areCalls_30 k5 n) σ v4 v8 (u6) v5 0)
  else fl_areCalls_93 k5 (fl_areCalls_30 k5 n) σ v4 v5 v8 (u6)))
set_option maxRecDepth 100000 in
set_option maxHeartbeats 4000000 in
theorem bl_areCalls_30 {p : Program} {l : Launch} {e : Env} {s : State} {m : MethodId} {args : Array Value} {below : List Frame} {meth : Method} {c : Code} {D : va_G} {dA : Nat → ClassId} {A : Nat → Prop} {ar : Nat → Nat} {ob b Ls : Nat} {sc : Nat → Int32} {σ : GS} {o : Int32} (X : zc p l s m args meth c cL_areCalls RL D dA A) (Y : zY s A b Ls sc) (hml : c.maxLocals = 9) (hr : meth.sig.returnType = (some .boolean)) {k5 : GS → Int32 → Int32 → Option (Int32)} (hk5 : ∀ {v3 : Int32} {v4 : Int32}, k5 σ v3 v4 = some o → zz p l e ({ frames := 11, cells := 0, slots := 0, locals := 462 } : Room) s m args below meth c A (gw D dA A σ ob ar) 0 0 (MQ below (va_Qi (fun r (_ : Unit) => r = o ∧ True) (fun _ t => gw D dA A σ ob ar t.heap) A) args s (0) (0) A) 5 [(0, .ref ob), (1, .ref (ar 0)), (2, .ref (ar 2)), (3, .int (v3)), (4, .int (v4))] [] []) : ∀ (n : Nat) {v4 : Int32} {v5 : Int32} {v8 : Int32} {u6 : Int64}, fl_areCalls_30 k5 n σ v4 v5 v8 u6 = some o → zz p l e ({ frames := 11, cells := 0, slots := 0, locals := 462 } : Room) s m args below meth c A (gw D dA A σ ob ar) 0 0 (MQ below (va_Qi (fun r (_ : Unit) => r = o ∧ True) (fun _ t => gw D dA A σ ob ar t.heap) A) args s (0) (0) A) 30 [(0, .ref ob), (1, .ref (ar 0)), (2, .ref (ar 2)), (4, .int (v4)), (5, .int (v5)), (8, .int (v8))] [(6, u6)] [] := by
  intro n
  induction n with
  | zero => intro v4 v5 v8 u6 h; exact (nomatch (show none = some o from h))
  | succ n ih =>
    intro v4 v5 v8 u6 h
    rw [fl_areCalls_30] at h
    refine z_iload X dL_areCalls_30 rfl ?_
    refine z_aload_n X dL_areCalls_32 rfl rfl ?_
    refine z_iconst (v := 2) X dL_areCalls_33 (by decide) ?_
    refine l_ald X 2 rfl (by decide) dL_areCalls_34 ?_
    refine z_icmp_ge (tgt := 99) X dL_areCalls_35 (by decide) (fun q => ?_) (fun q => ?_)
    · have h := zp q h
      refine z_aload_n X dL_areCalls_99 rfl rfl ?_
      refine z_iload X dL_areCalls_100 rfl ?_
      obtain ⟨o1, co1, h⟩ := zb2 h
      refine l_q (As := [.int (v4)]) (rest := []) (nA := 1) (mc := 0) (ms := 0) (rm := ({ frames := 10, cells := 0, slots := 0, locals := 420 } : Room)) (r0 := o1) X (fun _ h11 => cz_parties l X.2.2.2.2.2.2.2.2 X.2.2.2.2.2.2.1 h11 (fun _ z => nomatch z) (qo_eq co1)) n_771 n_772 n_773 n_1 n_774 nh_yX11_parties ⟨rfl, rfl, Nat.le_of_ble_eq_true rfl, Nat.le_of_ble_eq_true rfl⟩ rfl rfl (Nat.le_of_ble_eq_true rfl) dL_areCalls_102 ⟨by show _ ≤ 0; omega, by show _ ≤ 0; omega⟩ ?_
      refine z_iload X dL_areCalls_105 rfl ?_
      refine z_icmp_ne (tgt := 145) X dL_areCalls_107 (by decide) (fun q => ?_) (fun q => ?_)
      · have h := zp q h
        refine z_iload X dL_areCalls_110 rfl ?_
        refine z_iconst (v := 1) X dL_areCalls_112 (by decide) ?_
        refine z_icmp_eq (tgt := 145) X dL_areCalls_113 (by decide) (fun q => ?_) (fun q => ?_)
        · have h := zp q h
          refine zz.pick (lo' := [(0, .ref ob), (1, .ref (ar 0)), (2, .ref (ar 2)), (4, .int (v4))]) [0, 1, 2, 4] rfl ?_
          refine zz.pickl (ll' := []) [] rfl ?_
          exact bl_areCalls_145 X Y hml hr hk5 h
        · have h := zn q h
          refine z_iload X dL_areCalls_116 rfl ?_
          refine z_iconst (v := 5) X dL_areCalls_118 (by decide) ?_
          refine z_icmp_ge (tgt := 145) X dL_areCalls_119 (by decide) (fun q => ?_) (fun q => ?_)
          · have h := zp q h
            refine zz.pick (lo' := [(0, .ref ob), (1, .ref (ar 0)), (2, .ref (ar 2)), (4, .int (v4))]) [0, 1, 2, 4] rfl ?_
            refine zz.pickl (ll' := []) [] rfl ?_
            exact bl_areCalls_145 X Y hml hr hk5 h
          · have h := zn q h
            refine z_aload_n X dL_areCalls_122 rfl rfl ?_
            refine z_iload X dL_areCalls_123 rfl ?_
            obtain ⟨o2, co2, h⟩ := zb2 h
            refine l_q (As := [.int (v4)]) (rest := []) (nA := 1) (mc := 0) (ms := 0) (rm := ({ frames := 10, cells := 0, slots := 0, locals := 420 } : Room)) (r0 := o2) X (fun _ h11 => cz_stamp l X.2.2.2.2.2.2.2.2 X.2.2.2.2.2.2.1 h11 (fun _ z => nomatch z) (qo_eq co2)) n_963 n_964 n_965 n_1 n_966 nh_yX11_stamp ⟨rfl, rfl, Nat.le_of_ble_eq_true rfl, Nat.le_of_ble_eq_true rfl⟩ rfl rfl (Nat.le_of_ble_eq_true rfl) dL_areCalls_125 ⟨by show _ ≤ 0; omega, by show _ ≤ 0; omega⟩ ?_
            refine z_lload X dL_areCalls_128 rfl ?_
            refine z_bipush (v := 32) X dL_areCalls_130 (by decide) ?_
            refine z_lshr X dL_areCalls_132 ?_
            refine z_l2i X dL_areCalls_133 ?_
            refine z_lload X dL_areCalls_134 rfl ?_
            refine z_l2i X dL_areCalls_136 ?_
            refine z_ixor X dL_areCalls_137 ?_
            refine z_icmp_ne (tgt := 145) X dL_areCalls_138 (by decide) (fun q => ?_) (fun q => ?_)
            · have h := zp q h
              refine z_iconst (v := 1) X dL_areCalls_141 (by decide) ?_
              refine z_goto (tgt := 146) X dL_areCalls_142 (by decide) ?_
              refine zz.pick (lo' := [(0, .ref ob), (1, .ref (ar 0)), (2, .ref (ar 2)), (4, .int (v4))]) [0, 1, 2, 4] rfl ?_
              refine zz.pickl (ll' := []) [] rfl ?_
              exact bl_areCalls_146 X Y hml hr hk5 h
            · have h := zn q h
              refine zz.pick (lo' := [(0, .ref ob), (1, .ref (ar 0)), (2, .ref (ar 2)), (4, .int (v4))]) [0, 1, 2, 4] rfl ?_
              refine zz.pickl (ll' := []) [] rfl ?_
              exact bl_areCalls_145 X Y hml hr hk5 h
      · have h := zn q h
        refine zz.pick (lo' := [(0, .ref ob), (1, .ref (ar 0)), (2, .ref (ar 2)), (4, .int (v4))]) [0, 1, 2, 4] rfl ?_
        refine zz.pickl (ll' := []) [] rfl ?_
        exact bl_areCalls_145 X Y hml hr hk5 h
    · have h := zn q h
      refine z_aload_n X dL_areCalls_38 rfl rfl ?_
      refine z_iload X dL_areCalls_39 rfl ?_
      obtain ⟨q3, h⟩ := zg h
      refine l_ald X 0 rfl q3 dL_areCalls_41 ?_
      refine z_iconst (v := 4) X dL_areCalls_42 (by decide) ?_
      refine z_bipush (v := 6) X dL_areCalls_43 (by decide) ?_
      obtain ⟨o4, co4, h⟩ := zb2 h
      refine z_lSi (As := [.int ((σ.2 0 (v8).toNatClampNeg)), .int (4), .int (6)]) (rest := []) (nA := 3) (mc := 0) (ms := 0) (r0 := o4) (pu := fun (_ : Unit) => True) (G1 := fun _ => gw D dA A σ ob ar) X Y (ll_part l X.2.2.2.2.2.2.2.2 X.2.2.2.2.2.2.1 Y.2.2.2 co4) n_784 n_785 n_0 n_786 nh_yL_part ⟨rfl, rfl, Nat.le_of_ble_eq_true rfl, Nat.le_of_ble_eq_true rfl⟩ rfl rfl (Nat.le_of_ble_eq_true rfl) dL_areCalls_45 ⟨by show _ ≤ 0; omega, by show _ ≤ 0; omega⟩ (fun _ _ => ?_)
      refine z_iload X dL_areCalls_48 rfl ?_
      refine z_icmp_ne (tgt := 93) X dL_areCalls_50 (by decide) (fun q => ?_) (fun q => ?_)
      · have h := zp q h
        refine z_iload X dL_areCalls_53 rfl ?_
        refine z_aload_n X dL_areCalls_55 rfl rfl ?_
        refine z_iload X dL_areCalls_56 rfl ?_
        obtain ⟨o5, co5, h⟩ := zb2 h
        refine l_q (As := [.int (v8)]) (rest := [.int (v5)]) (nA := 1) (mc := 0) (ms := 0) (rm := ({ frames := 10, cells := 0, slots := 0, locals := 420 } : Room)) (r0 := o5) X (fun _ h11 => cz_stateOf l X.2.2.2.2.2.2.2.2 X.2.2.2.2.2.2.1 h11 (fun _ z => nomatch z) (qo_eq co5)) n_775 n_776 n_777 n_1 n_778 nh_yX11_stateOf ⟨rfl, rfl, Nat.le_of_ble_eq_true rfl, Nat.le_of_ble_eq_true rfl⟩ rfl rfl (Nat.le_of_ble_eq_true rfl) dL_areCalls_58 ⟨by show _ ≤ 0; omega, by show _ ≤ 0; omega⟩ ?_
        refine z_if_ne (tgt := 68) X dL_areCalls_61 (by decide) (fun q => ?_) (fun q => ?_)
        · have h := zp q h
          refine z_iconst (v := 1) X dL_areCalls_64 (by decide) ?_
          refine z_goto (tgt := 69) X dL_areCalls_65 (by decide) ?_
          refine zz.pick (lo' := [(0, .ref ob), (1, .ref (ar 0)), (2, .ref (ar 2)), (4, .int (v4)), (8, .int (v8))]) [0, 1, 2, 4, 8] rfl ?_
          exact bl_areCalls_69 X Y hml hr hk5 ih h
        · have h := zn q h
          refine z_iconst (v := 0) X dL_areCalls_68 (by decide) ?_
          refine zz.pick (lo' := [(0, .ref ob), (1, .ref (ar 0)), (2, .ref (ar 2)), (4, .int (v4)), (8, .int (v8))]) [0, 1, 2, 4, 8] rfl ?_
          exact bl_areCalls_69 X Y hml hr hk5 ih h
      · have h := zn q h
        refine zz.pick (lo' := [(0, .ref ob), (1, .ref (ar 0)), (2, .ref (ar 2)), (4, .int (v4)), (5, .int (v5)), (8, .int (v8))]) [0, 1, 2, 4, 5, 8] rfl ?_
        exact bl_areCalls_93 X Y hml hr hk5 ih h
def fl_areCalls_5 : Nat → GS → Int32 → Int32 → Option (Int32)
  | 0, _, _, _ => none
  | n + 1, σ, v3, v4 => (if (σ.2 2 (1).toNatClampNeg) ≤ v4 then if v3 = 0 ∨ v3 = 1 then some (v3) else none
  else (if v3 = 0 then if v3 = 0 ∨ v3 = 1 then some (v3) else none
  else (some (((v4 : Int32).toInt64 + 1))).bind fun x1 => fl_areCalls_30 (fl_areCalls_5 n) FU σ v4 0 0 (x1)))
set_option maxRecDepth 100000 in
set_option maxHeartbeats 4000000 in
theorem bl_areCalls_5 {p : Program} {l : Launch} {e : Env} {s : State} {m : MethodId} {args : Array Value} {below : List Frame} {meth : Method} {c : Code} {D : va_G} {dA : Nat → ClassId} {A : Nat → Prop} {ar : Nat → Nat} {ob b Ls : Nat} {sc : Nat → Int32} {σ : GS} {o : Int32} (X : zc p l s m args meth c cL_areCalls RL D dA A) (Y : zY s A b Ls sc) (hml : c.maxLocals = 9) (hr : meth.sig.returnType = (some .boolean)) : ∀ (n : Nat) {v3 : Int32} {v4 : Int32}, fl_areCalls_5 n σ v3 v4 = some o → zz p l e ({ frames := 11, cells := 0, slots := 0, locals := 462 } : Room) s m args below meth c A (gw D dA A σ ob ar) 0 0 (MQ below (va_Qi (fun r (_ : Unit) => r = o ∧ True) (fun _ t => gw D dA A σ ob ar t.heap) A) args s (0) (0) A) 5 [(0, .ref ob), (1, .ref (ar 0)), (2, .ref (ar 2)), (3, .int (v3)), (4, .int (v4))] [] [] := by
  intro n
  induction n with
  | zero => intro v3 v4 h; exact (nomatch (show none = some o from h))
  | succ n ih =>
    intro v3 v4 h
    rw [fl_areCalls_5] at h
    refine z_iload X dL_areCalls_5 rfl ?_
    refine z_aload_n X dL_areCalls_7 rfl rfl ?_
    refine z_iconst (v := 1) X dL_areCalls_8 (by decide) ?_
    refine l_ald X 2 rfl (by decide) dL_areCalls_9 ?_
    refine z_icmp_ge (tgt := 153) X dL_areCalls_10 (by decide) (fun q => ?_) (fun q => ?_)
    · have h := zp q h
      refine z_iload_n X dL_areCalls_153 rfl rfl ?_
      obtain ⟨q, h⟩ := zgp h
      obtain rfl := Option.some.inj h
      exact z_iret X hr (z_nb q) (fun t hG hF _ => ⟨⟨_, (), rfl, ⟨rfl, trivial⟩, hG⟩, hF⟩) dL_areCalls_154
    · have h := zn q h
      refine z_iload_n X dL_areCalls_13 rfl rfl ?_
      refine z_if_eq (tgt := 153) X dL_areCalls_14 (by decide) (fun q => ?_) (fun q => ?_)
      · have h := zp q h
        refine z_iload_n X dL_areCalls_153 rfl rfl ?_
        obtain ⟨q, h⟩ := zgp h
        obtain rfl := Option.some.inj h
        exact z_iret X hr (z_nb q) (fun t hG hF _ => ⟨⟨_, (), rfl, ⟨rfl, trivial⟩, hG⟩, hF⟩) dL_areCalls_154
      · have h := zn q h
        refine z_iconst (v := 0) X dL_areCalls_17 (by decide) ?_
        refine z_istore (lo' := [(5, .int (0)), (0, .ref ob), (1, .ref (ar 0)), (2, .ref (ar 2)), (3, .int (v3)), (4, .int (v4))]) X dL_areCalls_18 (by rw [hml]; decide) rfl rfl ?_
        refine z_iload X dL_areCalls_20 rfl ?_
        refine z_i2l X dL_areCalls_22 ?_
        refine z_lconst (v := 1) X dL_areCalls_23 (by decide) ?_
        refine z_ladd X dL_areCalls_24 ?_
        obtain ⟨x1, ex1, h⟩ := zb h
        rw [ex1]
        refine z_lstore X dL_areCalls_25 (by rw [hml]; decide) (lo' := [(5, .int (0)), (0, .ref ob), (1, .ref (ar 0)), (2, .ref (ar 2)), (3, .int (v3)), (4, .int (v4))]) (ll' := [(6, x1)]) rfl rfl ?_
        refine z_iconst (v := 0) X dL_areCalls_27 (by decide) ?_
        refine z_istore (lo' := [(8, .int (0)), (5, .int (0)), (0, .ref ob), (1, .ref (ar 0)), (2, .ref (ar 2)), (3, .int (v3)), (4, .int (v4))]) X dL_areCalls_28 (by rw [hml]; decide) rfl rfl ?_
        refine zz.pick (lo' := [(0, .ref ob), (1, .ref (ar 0)), (2, .ref (ar 2)), (4, .int (v4)), (5, .int (0)), (8, .int (0))]) [0, 1, 2, 4, 5, 8] rfl ?_
        exact bl_areCalls_30 X Y hml hr ih FU h
def fl_areCalls (σ : GS)  : Option (Int32) := fl_areCalls_5 FU σ 1 0
set_option maxRecDepth 100000 in
set_option maxHeartbeats 4000000 in
theorem bl_areCalls {p : Program} {l : Launch} {e : Env} {s : State} {m : MethodId} {args : Array Value} {below : List Frame} {meth : Method} {c : Code} {D : va_G} {dA : Nat → ClassId} {A : Nat → Prop} {ar : Nat → Nat} {ob b Ls : Nat} {sc : Nat → Int32} {σ : GS} {o : Int32} (X : zc p l s m args meth c cL_areCalls RL D dA A) (Y : zY s A b Ls sc) (hml : c.maxLocals = 9) (hr : meth.sig.returnType = (some .boolean))  (h : fl_areCalls σ = some o) : zz p l e ({ frames := 11, cells := 0, slots := 0, locals := 462 } : Room) s m args below meth c A (gw D dA A σ ob ar) 0 0 (MQ below (va_Qi (fun r (_ : Unit) => r = o ∧ True) (fun _ t => gw D dA A σ ob ar t.heap) A) args s (0) (0) A) 0 [(0, .ref ob), (1, .ref (ar 0)), (2, .ref (ar 2))] [] [] := by
  unfold fl_areCalls at h
  refine z_iconst (v := 1) X dL_areCalls_0 (by decide) ?_
  refine z_istore_n (lo' := [(3, .int (1)), (0, .ref ob), (1, .ref (ar 0)), (2, .ref (ar 2))]) X dL_areCalls_1 rfl (by rw [hml]; decide) rfl rfl ?_
  refine z_iconst (v := 0) X dL_areCalls_2 (by decide) ?_
  refine z_istore (lo' := [(4, .int (0)), (3, .int (1)), (0, .ref ob), (1, .ref (ar 0)), (2, .ref (ar 2))]) X dL_areCalls_3 (by rw [hml]; decide) rfl rfl ?_
  refine zz.pick (lo' := [(0, .ref ob), (1, .ref (ar 0)), (2, .ref (ar 2)), (3, .int (1)), (4, .int (0))]) [0, 1, 2, 3, 4] rfl ?_
  exact bl_areCalls_5 X Y hml hr FU h
theorem ll_areCalls (l : Launch) {D : va_G} {dA : Nat → ClassId} {A : Nat → Prop} {n : Nat} {ar : Nat → Nat} {ob b Ls : Nat} {sc : Nat → Int32} (hst : l.stackTraces = false) (hA : ∀ q, n ≤ q → A q) (hbA : ¬ A b) {σ : GS}  {o : Int32} (h : fl_areCalls σ = some o) : Met l yL_areCalls (.code yL_areCalls cL_areCalls 9 (some .boolean) :: gT) ({ frames := 11, cells := 0, slots := 0, locals := 462 } : Room) (va_Pc [.ref ob, .ref (ar 0), .ref (ar 2)] (zBL D dA A n b Ls sc (gw D dA A σ ob ar))) (va_Qi (fun r (_ : Unit) => r = o ∧ True) (fun _ t => gw D dA A σ ob ar t.heap) A) (0) (0) A :=
  z_metL (by decide) hA hbA hst (Nat.le_of_ble_eq_true rfl) rfl rfl (fun p e s m below meth c X Y hml hr => bl_areCalls X Y hml hr h)
-- reads(LMeshBiller;III)I
def fl_reads_63 (k25 : GS → Int32 → Int32 → Int32 → Int32 → Option (Int32)) (σ : GS) (v1 : Int32) (v3 : Int32) (v4 : Int32) (s0 : Int32) : Option (Int32) := (some ((v4 / 10))).bind fun x1 => k25 σ v1 v3 x1 s0
set_option maxRecDepth 100000 in
set_option maxHeartbeats 4000000 in
theorem bl_reads_63 {p : Program} {l : Launch} {e : Env} {s : State} {m : MethodId} {args : Array Value} {below : List Frame} {meth : Method} {c : Code} {D : va_G} {dA : Nat → ClassId} {A : Nat → Prop} {ar : Nat → Nat} {ob b Ls : Nat} {sc : Nat → Int32} {σ : GS} {o : Int32} (X : zc p l s m args meth c cL_reads RL D dA A) (Y : zY s A b Ls sc) (hml : c.maxLocals = 6) (hr : meth.sig.returnType = (some .int)) {n : Nat} {k25 : GS → Int32 → Int32 → Int32 → Int32 → Option (Int32)} (hk25 : ∀ {cells slots : Nat} (hcs : cells + (14 * n + 0) ≤ 154 ∧ slots + (400 * n + 0) ≤ 4400) {v1 : Int32} {v3 : Int32} {v4 : Int32} {v5 : Int32}, k25 σ v1 v3 v4 v5 = some o → zz p l e ({ frames := 13, cells := 154, slots := 4400, locals := 546 } : Room) s m args below meth c A (gw D dA A σ ob ar) cells slots (MQ below (va_Qi (fun r (_ : Unit) => r = o ∧ True) (fun _ t => gw D dA A σ ob ar t.heap) A) args s (154) (4400) A) 25 [(0, .ref ob), (1, .int (v1)), (3, .int (v3)), (4, .int (v4)), (5, .int (v5))] [] []) {cells slots : Nat} (hcs : cells + (0 + 14 * n + 0) ≤ 154 ∧ slots + (0 + 400 * n + 0) ≤ 4400) {v1 : Int32} {v3 : Int32} {v4 : Int32} {s0 : Int32} (h : fl_reads_63 k25 σ v1 v3 v4 s0 = some o) : zz p l e ({ frames := 13, cells := 154, slots := 4400, locals := 546 } : Room) s m args below meth c A (gw D dA A σ ob ar) cells slots (MQ below (va_Qi (fun r (_ : Unit) => r = o ∧ True) (fun _ t => gw D dA A σ ob ar t.heap) A) args s (154) (4400) A) 63 [(0, .ref ob), (1, .int (v1)), (3, .int (v3)), (4, .int (v4))] [] [.int (s0)] := by
  obtain ⟨hcs1, hcs2⟩ := hcs
  unfold fl_reads_63 at h
  refine z_istore (lo' := [(5, .int (s0)), (0, .ref ob), (1, .int (v1)), (3, .int (v3)), (4, .int (v4))]) X dL_reads_63 (by rw [hml]; decide) rfl rfl ?_
  refine z_iload X dL_reads_65 rfl ?_
  refine z_bipush (v := 10) X dL_reads_67 (by decide) ?_
  refine z_idiv X dL_reads_69 (by decide) ?_
  obtain ⟨x1, ex1, h⟩ := zb h
  rw [ex1]
  refine z_istore (lo' := [(4, .int (x1)), (5, .int (s0)), (0, .ref ob), (1, .int (v1)), (3, .int (v3))]) X dL_reads_70 (by rw [hml]; decide) rfl rfl ?_
  refine z_goto (tgt := 25) X dL_reads_72 (by decide) ?_
  refine zz.pick (lo' := [(0, .ref ob), (1, .int (v1)), (3, .int (v3)), (4, .int (x1)), (5, .int (s0))]) [0, 1, 3, 4, 5] rfl ?_
  exact hk25 ⟨by omega, by omega⟩ h
def fl_reads_25 : Nat → GS → Int32 → Int32 → Int32 → Int32 → Option (Int32)
  | 0, _, _, _, _, _ => none
  | n + 1, σ, v1, v3, v4, v5 => (if v4 ≤ 0 then some (v5)
  else (if v5 < 0 then some (v5)
  else (aq_lineAt σ.1 (v1) (v5)).bind fun o1 => if v4 = 0 then none else (if o1 = (48 + ((v3 / v4) - (v3 / v4) / 10 * 10)) then fl_reads_63 (fl_reads_25 n) σ v1 v3 v4 (v5 + 1)
  else fl_reads_63 (fl_reads_25 n) σ v1 v3 v4 (-1))))
set_option maxRecDepth 100000 in
set_option maxHeartbeats 4000000 in
theorem bl_reads_25 {p : Program} {l : Launch} {e : Env} {s : State} {m : MethodId} {args : Array Value} {below : List Frame} {meth : Method} {c : Code} {D : va_G} {dA : Nat → ClassId} {A : Nat → Prop} {ar : Nat → Nat} {ob b Ls : Nat} {sc : Nat → Int32} {σ : GS} {o : Int32} (X : zc p l s m args meth c cL_reads RL D dA A) (Y : zY s A b Ls sc) (hml : c.maxLocals = 6) (hr : meth.sig.returnType = (some .int)) : ∀ (n : Nat) {cells slots : Nat} (hcs : cells + (14 * n + 0) ≤ 154 ∧ slots + (400 * n + 0) ≤ 4400) {v1 : Int32} {v3 : Int32} {v4 : Int32} {v5 : Int32}, fl_reads_25 n σ v1 v3 v4 v5 = some o → zz p l e ({ frames := 13, cells := 154, slots := 4400, locals := 546 } : Room) s m args below meth c A (gw D dA A σ ob ar) cells slots (MQ below (va_Qi (fun r (_ : Unit) => r = o ∧ True) (fun _ t => gw D dA A σ ob ar t.heap) A) args s (154) (4400) A) 25 [(0, .ref ob), (1, .int (v1)), (3, .int (v3)), (4, .int (v4)), (5, .int (v5))] [] [] := by
  intro n
  induction n with
  | zero => intro cells slots hcs v1 v3 v4 v5 h; exact (nomatch (show none = some o from h))
  | succ n ih =>
    intro cells slots hcs v1 v3 v4 v5 h
    obtain ⟨hcs1, hcs2⟩ := hcs
    rw [fl_reads_25] at h
    refine z_iload X dL_reads_25 rfl ?_
    refine z_if_le (tgt := 75) X dL_reads_27 (by decide) (fun q => ?_) (fun q => ?_)
    · have h := zp q h
      refine z_iload X dL_reads_75 rfl ?_
      obtain rfl := Option.some.inj h
      refine zz.widen (k := 154) (n := 4400) (by omega) (by omega) ?_
      exact z_iret X hr rfl (fun t hG hF _ => ⟨⟨_, (), rfl, ⟨rfl, trivial⟩, hG⟩, hF⟩) dL_reads_77
    · have h := zn q h
      refine z_iload X dL_reads_30 rfl ?_
      refine z_if_lt (tgt := 75) X dL_reads_32 (by decide) (fun q => ?_) (fun q => ?_)
      · have h := zp q h
        refine z_iload X dL_reads_75 rfl ?_
        obtain rfl := Option.some.inj h
        refine zz.widen (k := 154) (n := 4400) (by omega) (by omega) ?_
        exact z_iret X hr rfl (fun t hG hF _ => ⟨⟨_, (), rfl, ⟨rfl, trivial⟩, hG⟩, hF⟩) dL_reads_77
      · have h := zn q h
        refine z_aload_n X dL_reads_35 rfl rfl ?_
        refine z_iload_n X dL_reads_36 rfl rfl ?_
        refine z_iload X dL_reads_37 rfl ?_
        obtain ⟨o1, co1, h⟩ := zb2 h
        refine l_q (As := [.int (v1), .int (v5)]) (rest := []) (nA := 2) (mc := 14) (ms := 400) (rm := ({ frames := 12, cells := 14, slots := 400, locals := 504 } : Room)) (r0 := o1) X (fun _ h11 => cc_lineAt l X.2.2.2.2.2.2.2.2 X.2.2.2.2.2.2.1 h11 (qo_eq co1)) n_970 n_971 n_972 n_1 n_973 nh_yX11_lineAt ⟨rfl, rfl, Nat.le_of_ble_eq_true rfl, Nat.le_of_ble_eq_true rfl⟩ rfl rfl (Nat.le_of_ble_eq_true rfl) dL_reads_39 ⟨by show _ ≤ 154; omega, by show _ ≤ 4400; omega⟩ ?_
        refine z_bipush (v := 48) X dL_reads_42 (by decide) ?_
        refine z_iload_n X dL_reads_44 rfl rfl ?_
        refine z_iload X dL_reads_45 rfl ?_
        obtain ⟨q2, h⟩ := zg h
        refine z_idiv X dL_reads_47 q2 ?_
        refine z_bipush (v := 10) X dL_reads_48 (by decide) ?_
        refine z_irem X dL_reads_50 (by decide) ?_
        refine z_iadd X dL_reads_51 ?_
        refine z_icmp_ne (tgt := 62) X dL_reads_52 (by decide) (fun q => ?_) (fun q => ?_)
        · have h := zp q h
          refine z_iload X dL_reads_55 rfl ?_
          refine z_iconst (v := 1) X dL_reads_57 (by decide) ?_
          refine z_iadd X dL_reads_58 ?_
          refine z_goto (tgt := 63) X dL_reads_59 (by decide) ?_
          refine zz.pick (lo' := [(0, .ref ob), (1, .int (v1)), (3, .int (v3)), (4, .int (v4))]) [0, 1, 3, 4] rfl ?_
          exact bl_reads_63 X Y hml hr ih ⟨by omega, by omega⟩ h
        · have h := zn q h
          refine z_iconst (v := (-1)) X dL_reads_62 (by decide) ?_
          refine zz.pick (lo' := [(0, .ref ob), (1, .int (v1)), (3, .int (v3)), (4, .int (v4))]) [0, 1, 3, 4] rfl ?_
          exact bl_reads_63 X Y hml hr ih ⟨by omega, by omega⟩ h
def fl_reads_6 : Nat → GS → Int32 → Int32 → Int32 → Int32 → Option (Int32)
  | 0, _, _, _, _, _ => none
  | n + 1, σ, v1, v3, v4, v5 => if v4 = 0 then none else (if (v3 / v4) ≤ 9 then fl_reads_25 FU σ v1 v3 v4 v5
  else (some ((v4 * 10))).bind fun x2 => fl_reads_6 n σ v1 v3 x2 v5)
set_option maxRecDepth 100000 in
set_option maxHeartbeats 4000000 in
theorem bl_reads_6 {p : Program} {l : Launch} {e : Env} {s : State} {m : MethodId} {args : Array Value} {below : List Frame} {meth : Method} {c : Code} {D : va_G} {dA : Nat → ClassId} {A : Nat → Prop} {ar : Nat → Nat} {ob b Ls : Nat} {sc : Nat → Int32} {σ : GS} {o : Int32} (X : zc p l s m args meth c cL_reads RL D dA A) (Y : zY s A b Ls sc) (hml : c.maxLocals = 6) (hr : meth.sig.returnType = (some .int)) : ∀ (n : Nat) {cells slots : Nat} (hcs : cells + (154) ≤ 154 ∧ slots + (4400) ≤ 4400) {v1 : Int32} {v3 : Int32} {v4 : Int32} {v5 : Int32}, fl_reads_6 n σ v1 v3 v4 v5 = some o → zz p l e ({ frames := 13, cells := 154, slots := 4400, locals := 546 } : Room) s m args below meth c A (gw D dA A σ ob ar) cells slots (MQ below (va_Qi (fun r (_ : Unit) => r = o ∧ True) (fun _ t => gw D dA A σ ob ar t.heap) A) args s (154) (4400) A) 6 [(0, .ref ob), (1, .int (v1)), (3, .int (v3)), (4, .int (v4)), (5, .int (v5))] [] [] := by
  intro n
  induction n with
  | zero => intro cells slots hcs v1 v3 v4 v5 h; exact (nomatch (show none = some o from h))
  | succ n ih =>
    intro cells slots hcs v1 v3 v4 v5 h
    obtain ⟨hcs1, hcs2⟩ := hcs
    rw [fl_reads_6] at h
    refine z_iload_n X dL_reads_6 rfl rfl ?_
    refine z_iload X dL_reads_7 rfl ?_
    obtain ⟨q1, h⟩ := zg h
    refine z_idiv X dL_reads_9 q1 ?_
    refine z_bipush (v := 9) X dL_reads_10 (by decide) ?_
    refine z_icmp_le (tgt := 25) X dL_reads_12 (by decide) (fun q => ?_) (fun q => ?_)
    · have h := zp q h
      refine zz.pick (lo' := [(0, .ref ob), (1, .int (v1)), (3, .int (v3)), (4, .int (v4)), (5, .int (v5))]) [0, 1, 3, 4, 5] rfl ?_
      exact bl_reads_25 X Y hml hr 11 ⟨by omega, by omega⟩ h
    · have h := zn q h
      refine z_iload X dL_reads_15 rfl ?_
      refine z_bipush (v := 10) X dL_reads_17 (by decide) ?_
      refine z_imul X dL_reads_19 ?_
      obtain ⟨x2, ex2, h⟩ := zb h
      rw [ex2]
      refine z_istore (lo' := [(4, .int (x2)), (0, .ref ob), (1, .int (v1)), (3, .int (v3)), (5, .int (v5))]) X dL_reads_20 (by rw [hml]; decide) rfl rfl ?_
      refine z_goto (tgt := 6) X dL_reads_22 (by decide) ?_
      refine zz.pick (lo' := [(0, .ref ob), (1, .int (v1)), (3, .int (v3)), (4, .int (x2)), (5, .int (v5))]) [0, 1, 3, 4, 5] rfl ?_
      exact ih  h
def fl_reads (σ : GS) (a1 : Int32) (a2 : Int32) (a3 : Int32) : Option (Int32) := fl_reads_6 FU σ a1 a3 1 a2
set_option maxRecDepth 100000 in
set_option maxHeartbeats 4000000 in
theorem bl_reads {p : Program} {l : Launch} {e : Env} {s : State} {m : MethodId} {args : Array Value} {below : List Frame} {meth : Method} {c : Code} {D : va_G} {dA : Nat → ClassId} {A : Nat → Prop} {ar : Nat → Nat} {ob b Ls : Nat} {sc : Nat → Int32} {σ : GS} {o : Int32} (X : zc p l s m args meth c cL_reads RL D dA A) (Y : zY s A b Ls sc) (hml : c.maxLocals = 6) (hr : meth.sig.returnType = (some .int)) {cells slots : Nat} (hcs : cells + (154) ≤ 154 ∧ slots + (4400) ≤ 4400) {a1 : Int32} {a2 : Int32} {a3 : Int32} (h : fl_reads σ a1 a2 a3 = some o) : zz p l e ({ frames := 13, cells := 154, slots := 4400, locals := 546 } : Room) s m args below meth c A (gw D dA A σ ob ar) cells slots (MQ below (va_Qi (fun r (_ : Unit) => r = o ∧ True) (fun _ t => gw D dA A σ ob ar t.heap) A) args s (154) (4400) A) 0 [(0, .ref ob), (1, .int (a1)), (2, .int (a2)), (3, .int (a3))] [] [] := by
  obtain ⟨hcs1, hcs2⟩ := hcs
  unfold fl_reads at h
  refine z_iconst (v := 1) X dL_reads_0 (by decide) ?_
  refine z_istore (lo' := [(4, .int (1)), (0, .ref ob), (1, .int (a1)), (2, .int (a2)), (3, .int (a3))]) X dL_reads_1 (by rw [hml]; decide) rfl rfl ?_
  refine z_iload_n X dL_reads_3 rfl rfl ?_
  refine z_istore (lo' := [(5, .int (a2)), (4, .int (1)), (0, .ref ob), (1, .int (a1)), (2, .int (a2)), (3, .int (a3))]) X dL_reads_4 (by rw [hml]; decide) rfl rfl ?_
  refine zz.pick (lo' := [(0, .ref ob), (1, .int (a1)), (3, .int (a3)), (4, .int (1)), (5, .int (a2))]) [0, 1, 3, 4, 5] rfl ?_
  exact bl_reads_6 X Y hml hr FU ⟨by omega, by omega⟩ h
theorem ll_reads (l : Launch) {D : va_G} {dA : Nat → ClassId} {A : Nat → Prop} {n : Nat} {ar : Nat → Nat} {ob b Ls : Nat} {sc : Nat → Int32} (hst : l.stackTraces = false) (hA : ∀ q, n ≤ q → A q) (hbA : ¬ A b) {σ : GS} {a1 : Int32} {a2 : Int32} {a3 : Int32} {o : Int32} (h : fl_reads σ a1 a2 a3 = some o) : Met l yL_reads (.code yL_reads cL_reads 6 (some .int) :: gT) ({ frames := 13, cells := 154, slots := 4400, locals := 546 } : Room) (va_Pc [.ref ob, .int (a1), .int (a2), .int (a3)] (zBL D dA A n b Ls sc (gw D dA A σ ob ar))) (va_Qi (fun r (_ : Unit) => r = o ∧ True) (fun _ t => gw D dA A σ ob ar t.heap) A) (154) (4400) A :=
  z_metL (by decide) hA hbA hst (Nat.le_of_ble_eq_true rfl) rfl rfl (fun p e s m below meth c X Y hml hr => bl_reads X Y hml hr ⟨by omega, by omega⟩ h)
-- isLine(LMeshBiller;I[I)Z
def fl_isLine_225 (σ : GS) (v1 : Int32) (v3 : Int32) : Option (Int32) := (if v3 ≤ 0 then some (0)
  else (aq_lineAt σ.1 (v1) (v3)).bind fun o1 => (if o1 = (-1) then some (1)
  else some (0)))
set_option maxRecDepth 100000 in
set_option maxHeartbeats 4000000 in
theorem bl_isLine_225 {p : Program} {l : Launch} {e : Env} {s : State} {m : MethodId} {args : Array Value} {below : List Frame} {meth : Method} {c : Code} {D : va_G} {dA : Nat → ClassId} {A : Nat → Prop} {ar : Nat → Nat} {ob b Ls : Nat} {sc : Nat → Int32} {σ : GS} {o : Int32} (X : zc p l s m args meth c cL_isLine RL D dA A) (Y : zY s A b Ls sc) (hml : c.maxLocals = 7) (hr : meth.sig.returnType = (some .boolean)) {cells slots : Nat} (hcs : cells + (14) ≤ 1036 ∧ slots + (400) ≤ 29600) {v1 : Int32} {v3 : Int32} (h : fl_isLine_225 σ v1 v3 = some o) : zz p l e ({ frames := 14, cells := 1036, slots := 29600, locals := 588 } : Room) s m args below meth c A (gw D dA A σ ob ar) cells slots (MQ below (va_Qi (fun r (_ : Unit) => r = o ∧ True) (fun _ t => gw D dA A σ ob ar t.heap) A) args s (1036) (29600) A) 225 [(0, .ref ob), (1, .int (v1)), (3, .int (v3))] [] [] := by
  obtain ⟨hcs1, hcs2⟩ := hcs
  unfold fl_isLine_225 at h
  refine z_iload_n X dL_isLine_225 rfl rfl ?_
  refine z_if_le (tgt := 243) X dL_isLine_226 (by decide) (fun q => ?_) (fun q => ?_)
  · have h := zp q h
    refine z_iconst (v := 0) X dL_isLine_243 (by decide) ?_
    obtain rfl := Option.some.inj h
    refine zz.widen (k := 1036) (n := 29600) (by omega) (by omega) ?_
    exact z_iret X hr rfl (fun t hG hF _ => ⟨⟨_, (), rfl, ⟨rfl, trivial⟩, hG⟩, hF⟩) dL_isLine_244
  · have h := zn q h
    refine z_aload_n X dL_isLine_229 rfl rfl ?_
    refine z_iload_n X dL_isLine_230 rfl rfl ?_
    refine z_iload_n X dL_isLine_231 rfl rfl ?_
    obtain ⟨o1, co1, h⟩ := zb2 h
    refine l_q (As := [.int (v1), .int (v3)]) (rest := []) (nA := 2) (mc := 14) (ms := 400) (rm := ({ frames := 12, cells := 14, slots := 400, locals := 504 } : Room)) (r0 := o1) X (fun _ h11 => cc_lineAt l X.2.2.2.2.2.2.2.2 X.2.2.2.2.2.2.1 h11 (qo_eq co1)) n_970 n_971 n_972 n_1 n_973 nh_yX11_lineAt ⟨rfl, rfl, Nat.le_of_ble_eq_true rfl, Nat.le_of_ble_eq_true rfl⟩ rfl rfl (Nat.le_of_ble_eq_true rfl) dL_isLine_232 ⟨by show _ ≤ 1036; omega, by show _ ≤ 29600; omega⟩ ?_
    refine z_iconst (v := (-1)) X dL_isLine_235 (by decide) ?_
    refine z_icmp_ne (tgt := 243) X dL_isLine_236 (by decide) (fun q => ?_) (fun q => ?_)
    · have h := zp q h
      refine z_iconst (v := 1) X dL_isLine_239 (by decide) ?_
      refine z_goto (tgt := 244) X dL_isLine_240 (by decide) ?_
      obtain rfl := Option.some.inj h
      refine zz.widen (k := 1036) (n := 29600) (by omega) (by omega) ?_
      exact z_iret X hr rfl (fun t hG hF _ => ⟨⟨_, (), rfl, ⟨rfl, trivial⟩, hG⟩, hF⟩) dL_isLine_244
    · have h := zn q h
      refine z_iconst (v := 0) X dL_isLine_243 (by decide) ?_
      obtain rfl := Option.some.inj h
      refine zz.widen (k := 1036) (n := 29600) (by omega) (by omega) ?_
      exact z_iret X hr rfl (fun t hG hF _ => ⟨⟨_, (), rfl, ⟨rfl, trivial⟩, hG⟩, hF⟩) dL_isLine_244
def fl_isLine_218 (k20 : GS → Int32 → Int32 → Int32 → Option (Int32)) (σ : GS) (v1 : Int32) (v4 : Int32) (s0 : Int32) : Option (Int32) := (some (v4 + 1)).bind fun x1 => k20 σ v1 s0 x1
set_option maxRecDepth 100000 in
set_option maxHeartbeats 4000000 in
theorem bl_isLine_218 {p : Program} {l : Launch} {e : Env} {s : State} {m : MethodId} {args : Array Value} {below : List Frame} {meth : Method} {c : Code} {D : va_G} {dA : Nat → ClassId} {A : Nat → Prop} {ar : Nat → Nat} {ob b Ls : Nat} {sc : Nat → Int32} {σ : GS} {o : Int32} (X : zc p l s m args meth c cL_isLine RL D dA A) (Y : zY s A b Ls sc) (hml : c.maxLocals = 7) (hr : meth.sig.returnType = (some .boolean)) {n : Nat} {k20 : GS → Int32 → Int32 → Int32 → Option (Int32)} (hk20 : ∀ {cells slots : Nat} (hcs : cells + (168 * n + 14) ≤ 1036 ∧ slots + (4800 * n + 400) ≤ 29600) {v1 : Int32} {v3 : Int32} {v4 : Int32}, k20 σ v1 v3 v4 = some o → zz p l e ({ frames := 14, cells := 1036, slots := 29600, locals := 588 } : Room) s m args below meth c A (gw D dA A σ ob ar) cells slots (MQ below (va_Qi (fun r (_ : Unit) => r = o ∧ True) (fun _ t => gw D dA A σ ob ar t.heap) A) args s (1036) (29600) A) 20 [(0, .ref ob), (1, .int (v1)), (2, .ref (ar 0)), (3, .int (v3)), (4, .int (v4))] [] []) {cells slots : Nat} (hcs : cells + (0 + 168 * n + 14) ≤ 1036 ∧ slots + (0 + 4800 * n + 400) ≤ 29600) {v1 : Int32} {v4 : Int32} {s0 : Int32} (h : fl_isLine_218 k20 σ v1 v4 s0 = some o) : zz p l e ({ frames := 14, cells := 1036, slots := 29600, locals := 588 } : Room) s m args below meth c A (gw D dA A σ ob ar) cells slots (MQ below (va_Qi (fun r (_ : Unit) => r = o ∧ True) (fun _ t => gw D dA A σ ob ar t.heap) A) args s (1036) (29600) A) 218 [(0, .ref ob), (1, .int (v1)), (2, .ref (ar 0)), (4, .int (v4))] [] [.int (s0)] := by
  obtain ⟨hcs1, hcs2⟩ := hcs
  unfold fl_isLine_218 at h
  refine z_istore_n (lo' := [(3, .int (s0)), (0, .ref ob), (1, .int (v1)), (2, .ref (ar 0)), (4, .int (v4))]) X dL_isLine_218 rfl (by rw [hml]; decide) rfl rfl ?_
  obtain ⟨x1, ex1, h⟩ := zb h
  refine z_iinc (v := x1) (lo' := [(4, .int (x1)), (3, .int (s0)), (0, .ref ob), (1, .int (v1)), (2, .ref (ar 0))]) X dL_isLine_219 rfl ex1 (by rw [hml]; decide) rfl rfl ?_
  refine z_goto (tgt := 20) X dL_isLine_222 (by decide) ?_
  refine zz.pick (lo' := [(0, .ref ob), (1, .int (v1)), (2, .ref (ar 0)), (3, .int (s0)), (4, .int (x1))]) [0, 1, 2, 3, 4] rfl ?_
  exact hk20 ⟨by omega, by omega⟩ h
def fl_isLine_217 (k20 : GS → Int32 → Int32 → Int32 → Option (Int32)) (σ : GS) (v1 : Int32) (v4 : Int32) : Option (Int32) := fl_isLine_218 k20 σ v1 v4 (-1)
set_option maxRecDepth 100000 in
set_option maxHeartbeats 4000000 in
theorem bl_isLine_217 {p : Program} {l : Launch} {e : Env} {s : State} {m : MethodId} {args : Array Value} {below : List Frame} {meth : Method} {c : Code} {D : va_G} {dA : Nat → ClassId} {A : Nat → Prop} {ar : Nat → Nat} {ob b Ls : Nat} {sc : Nat → Int32} {σ : GS} {o : Int32} (X : zc p l s m args meth c cL_isLine RL D dA A) (Y : zY s A b Ls sc) (hml : c.maxLocals = 7) (hr : meth.sig.returnType = (some .boolean)) {n : Nat} {k20 : GS → Int32 → Int32 → Int32 → Option (Int32)} (hk20 : ∀ {cells slots : Nat} (hcs : cells + (168 * n + 14) ≤ 1036 ∧ slots + (4800 * n + 400) ≤ 29600) {v1 : Int32} {v3 : Int32} {v4 : Int32}, k20 σ v1 v3 v4 = some o → zz p l e ({ frames := 14, cells := 1036, slots := 29600, locals := 588 } : Room) s m args below meth c A (gw D dA A σ ob ar) cells slots (MQ below (va_Qi (fun r (_ : Unit) => r = o ∧ True) (fun _ t => gw D dA A σ ob ar t.heap) A) args s (1036) (29600) A) 20 [(0, .ref ob), (1, .int (v1)), (2, .ref (ar 0)), (3, .int (v3)), (4, .int (v4))] [] []) {cells slots : Nat} (hcs : cells + (0 + 168 * n + 14) ≤ 1036 ∧ slots + (0 + 4800 * n + 400) ≤ 29600) {v1 : Int32} {v4 : Int32} (h : fl_isLine_217 k20 σ v1 v4 = some o) : zz p l e ({ frames := 14, cells := 1036, slots := 29600, locals := 588 } : Room) s m args below meth c A (gw D dA A σ ob ar) cells slots (MQ below (va_Qi (fun r (_ : Unit) => r = o ∧ True) (fun _ t => gw D dA A σ ob ar t.heap) A) args s (1036) (29600) A) 217 [(0, .ref ob), (1, .int (v1)), (2, .ref (ar 0)), (4, .int (v4))] [] [] := by
  obtain ⟨hcs1, hcs2⟩ := hcs
  unfold fl_isLine_217 at h
  refine z_iconst (v := (-1)) X dL_isLine_217 (by decide) ?_
  refine zz.pick (lo' := [(0, .ref ob), (1, .int (v1)), (2, .ref (ar 0)), (4, .int (v4))]) [0, 1, 2, 4] rfl ?_
  exact bl_isLine_218 X Y hml hr hk20 ⟨by omega, by omega⟩ h
def fl_isLine_185 (k20 : GS → Int32 → Int32 → Int32 → Option (Int32)) (σ : GS) (v1 : Int32) (v3 : Int32) (v4 : Int32) (v5 : Int32) (s0 : Int32) : Option (Int32) := (fl_reads σ (v1) (v3) (v5)).bind fun o1 => (if o1 ≤ 0 then fl_isLine_217 k20 σ v1 v4
  else (aq_lineAt σ.1 (v1) (o1)).bind fun o2 => (if o2 = s0 then fl_isLine_218 k20 σ v1 v4 (o1 + 1)
  else fl_isLine_217 k20 σ v1 v4))
set_option maxRecDepth 100000 in
set_option maxHeartbeats 4000000 in
theorem bl_isLine_185 {p : Program} {l : Launch} {e : Env} {s : State} {m : MethodId} {args : Array Value} {below : List Frame} {meth : Method} {c : Code} {D : va_G} {dA : Nat → ClassId} {A : Nat → Prop} {ar : Nat → Nat} {ob b Ls : Nat} {sc : Nat → Int32} {σ : GS} {o : Int32} (X : zc p l s m args meth c cL_isLine RL D dA A) (Y : zY s A b Ls sc) (hml : c.maxLocals = 7) (hr : meth.sig.returnType = (some .boolean)) {n : Nat} {k20 : GS → Int32 → Int32 → Int32 → Option (Int32)} (hk20 : ∀ {cells slots : Nat} (hcs : cells + (168 * n + 14) ≤ 1036 ∧ slots + (4800 * n + 400) ≤ 29600) {v1 : Int32} {v3 : Int32} {v4 : Int32}, k20 σ v1 v3 v4 = some o → zz p l e ({ frames := 14, cells := 1036, slots := 29600, locals := 588 } : Room) s m args below meth c A (gw D dA A σ ob ar) cells slots (MQ below (va_Qi (fun r (_ : Unit) => r = o ∧ True) (fun _ t => gw D dA A σ ob ar t.heap) A) args s (1036) (29600) A) 20 [(0, .ref ob), (1, .int (v1)), (2, .ref (ar 0)), (3, .int (v3)), (4, .int (v4))] [] []) {cells slots : Nat} (hcs : cells + (168 + 168 * n + 14) ≤ 1036 ∧ slots + (4800 + 4800 * n + 400) ≤ 29600) {v1 : Int32} {v3 : Int32} {v4 : Int32} {v5 : Int32} {s0 : Int32} (h : fl_isLine_185 k20 σ v1 v3 v4 v5 s0 = some o) : zz p l e ({ frames := 14, cells := 1036, slots := 29600, locals := 588 } : Room) s m args below meth c A (gw D dA A σ ob ar) cells slots (MQ below (va_Qi (fun r (_ : Unit) => r = o ∧ True) (fun _ t => gw D dA A σ ob ar t.heap) A) args s (1036) (29600) A) 185 [(0, .ref ob), (1, .int (v1)), (2, .ref (ar 0)), (3, .int (v3)), (4, .int (v4)), (5, .int (v5))] [] [.int (s0)] := by
  obtain ⟨hcs1, hcs2⟩ := hcs
  unfold fl_isLine_185 at h
  refine z_istore (lo' := [(6, .int (s0)), (0, .ref ob), (1, .int (v1)), (2, .ref (ar 0)), (3, .int (v3)), (4, .int (v4)), (5, .int (v5))]) X dL_isLine_185 (by rw [hml]; decide) rfl rfl ?_
  refine z_aload_n X dL_isLine_187 rfl rfl ?_
  refine z_iload_n X dL_isLine_188 rfl rfl ?_
  refine z_iload_n X dL_isLine_189 rfl rfl ?_
  refine z_iload X dL_isLine_190 rfl ?_
  obtain ⟨o1, co1, h⟩ := zb2 h
  refine z_lSi (As := [.ref ob, .int (v1), .int (v3), .int (v5)]) (rest := []) (nA := 4) (mc := 154) (ms := 4400) (r0 := o1) (pu := fun (_ : Unit) => True) (G1 := fun _ => gw D dA A σ ob ar) X Y (ll_reads l X.2.2.2.2.2.2.2.2 X.2.2.2.2.2.2.1 Y.2.2.2 co1) n_1139 n_1140 n_0 n_1141 nh_yL_reads ⟨rfl, rfl, Nat.le_of_ble_eq_true rfl, Nat.le_of_ble_eq_true rfl⟩ rfl rfl (Nat.le_of_ble_eq_true rfl) dL_isLine_192 ⟨by show _ ≤ 1036; omega, by show _ ≤ 29600; omega⟩ (fun _ _ => ?_)
  refine z_istore_n (lo' := [(3, .int (o1)), (6, .int (s0)), (0, .ref ob), (1, .int (v1)), (2, .ref (ar 0)), (4, .int (v4)), (5, .int (v5))]) X dL_isLine_195 rfl (by rw [hml]; decide) rfl rfl ?_
  refine z_iload_n X dL_isLine_196 rfl rfl ?_
  refine z_if_le (tgt := 217) X dL_isLine_197 (by decide) (fun q => ?_) (fun q => ?_)
  · have h := zp q h
    refine zz.pick (lo' := [(0, .ref ob), (1, .int (v1)), (2, .ref (ar 0)), (4, .int (v4))]) [0, 1, 2, 4] rfl ?_
    exact bl_isLine_217 X Y hml hr hk20 ⟨by omega, by omega⟩ h
  · have h := zn q h
    refine z_aload_n X dL_isLine_200 rfl rfl ?_
    refine z_iload_n X dL_isLine_201 rfl rfl ?_
    refine z_iload_n X dL_isLine_202 rfl rfl ?_
    obtain ⟨o2, co2, h⟩ := zb2 h
    refine l_q (As := [.int (v1), .int (o1)]) (rest := []) (nA := 2) (mc := 14) (ms := 400) (rm := ({ frames := 12, cells := 14, slots := 400, locals := 504 } : Room)) (r0 := o2) X (fun _ h11 => cc_lineAt l X.2.2.2.2.2.2.2.2 X.2.2.2.2.2.2.1 h11 (qo_eq co2)) n_970 n_971 n_972 n_1 n_973 nh_yX11_lineAt ⟨rfl, rfl, Nat.le_of_ble_eq_true rfl, Nat.le_of_ble_eq_true rfl⟩ rfl rfl (Nat.le_of_ble_eq_true rfl) dL_isLine_203 ⟨by show _ ≤ 1036; omega, by show _ ≤ 29600; omega⟩ ?_
    refine z_iload X dL_isLine_206 rfl ?_
    refine z_icmp_ne (tgt := 217) X dL_isLine_208 (by decide) (fun q => ?_) (fun q => ?_)
    · have h := zp q h
      refine z_iload_n X dL_isLine_211 rfl rfl ?_
      refine z_iconst (v := 1) X dL_isLine_212 (by decide) ?_
      refine z_iadd X dL_isLine_213 ?_
      refine z_goto (tgt := 218) X dL_isLine_214 (by decide) ?_
      refine zz.pick (lo' := [(0, .ref ob), (1, .int (v1)), (2, .ref (ar 0)), (4, .int (v4))]) [0, 1, 2, 4] rfl ?_
      exact bl_isLine_218 X Y hml hr hk20 ⟨by omega, by omega⟩ h
    · have h := zn q h
      refine zz.pick (lo' := [(0, .ref ob), (1, .int (v1)), (2, .ref (ar 0)), (4, .int (v4))]) [0, 1, 2, 4] rfl ?_
      exact bl_isLine_217 X Y hml hr hk20 ⟨by omega, by omega⟩ h
def fl_isLine_97 (k20 : GS → Int32 → Int32 → Int32 → Option (Int32)) (σ : GS) (v1 : Int32) (v3 : Int32) (v4 : Int32) (s0 : Int32) : Option (Int32) := (if v4 = 0 then fl_isLine_185 k20 σ v1 v3 v4 s0 67
  else (if v4 = 1 then fl_isLine_185 k20 σ v1 v3 v4 s0 58
  else (if v4 = 2 then fl_isLine_185 k20 σ v1 v3 v4 s0 61
  else (if v4 = 3 then fl_isLine_185 k20 σ v1 v3 v4 s0 43
  else (aq_stateOf σ.1 (v1)).bind fun o1 => (if o1 = 0 then fl_isLine_185 k20 σ v1 v3 v4 s0 126
  else (aq_stateOf σ.1 (v1)).bind fun o2 => (if o2 = 1 then fl_isLine_185 k20 σ v1 v3 v4 s0 46
  else (aq_stateOf σ.1 (v1)).bind fun o3 => (if o3 = 2 then fl_isLine_185 k20 σ v1 v3 v4 s0 33
  else fl_isLine_185 k20 σ v1 v3 v4 s0 63)))))))
set_option maxRecDepth 100000 in
set_option maxHeartbeats 4000000 in
theorem bl_isLine_97 {p : Program} {l : Launch} {e : Env} {s : State} {m : MethodId} {args : Array Value} {below : List Frame} {meth : Method} {c : Code} {D : va_G} {dA : Nat → ClassId} {A : Nat → Prop} {ar : Nat → Nat} {ob b Ls : Nat} {sc : Nat → Int32} {σ : GS} {o : Int32} (X : zc p l s m args meth c cL_isLine RL D dA A) (Y : zY s A b Ls sc) (hml : c.maxLocals = 7) (hr : meth.sig.returnType = (some .boolean)) {n : Nat} {k20 : GS → Int32 → Int32 → Int32 → Option (Int32)} (hk20 : ∀ {cells slots : Nat} (hcs : cells + (168 * n + 14) ≤ 1036 ∧ slots + (4800 * n + 400) ≤ 29600) {v1 : Int32} {v3 : Int32} {v4 : Int32}, k20 σ v1 v3 v4 = some o → zz p l e ({ frames := 14, cells := 1036, slots := 29600, locals := 588 } : Room) s m args below meth c A (gw D dA A σ ob ar) cells slots (MQ below (va_Qi (fun r (_ : Unit) => r = o ∧ True) (fun _ t => gw D dA A σ ob ar t.heap) A) args s (1036) (29600) A) 20 [(0, .ref ob), (1, .int (v1)), (2, .ref (ar 0)), (3, .int (v3)), (4, .int (v4))] [] []) {cells slots : Nat} (hcs : cells + (168 + 168 * n + 14) ≤ 1036 ∧ slots + (4800 + 4800 * n + 400) ≤ 29600) {v1 : Int32} {v3 : Int32} {v4 : Int32} {s0 : Int32} (h : fl_isLine_97 k20 σ v1 v3 v4 s0 = some o) : zz p l e ({ frames := 14, cells := 1036, slots := 29600, locals := 588 } : Room) s m args below meth c A (gw D dA A σ ob ar) cells slots (MQ below (va_Qi (fun r (_ : Unit) => r = o ∧ True) (fun _ t => gw D dA A σ ob ar t.heap) A) args s (1036) (29600) A) 97 [(0, .ref ob), (1, .int (v1)), (2, .ref (ar 0)), (3, .int (v3)), (4, .int (v4))] [] [.int (s0)] := by
  obtain ⟨hcs1, hcs2⟩ := hcs
  unfold fl_isLine_97 at h
  refine z_istore (lo' := [(5, .int (s0)), (0, .ref ob), (1, .int (v1)), (2, .ref (ar 0)), (3, .int (v3)), (4, .int (v4))]) X dL_isLine_97 (by rw [hml]; decide) rfl rfl ?_
  refine z_iload X dL_isLine_99 rfl ?_
  refine z_if_ne (tgt := 109) X dL_isLine_101 (by decide) (fun q => ?_) (fun q => ?_)
  · have h := zp q h
    refine z_bipush (v := 67) X dL_isLine_104 (by decide) ?_
    refine z_goto (tgt := 185) X dL_isLine_106 (by decide) ?_
    refine zz.pick (lo' := [(0, .ref ob), (1, .int (v1)), (2, .ref (ar 0)), (3, .int (v3)), (4, .int (v4)), (5, .int (s0))]) [0, 1, 2, 3, 4, 5] rfl ?_
    exact bl_isLine_185 X Y hml hr hk20 ⟨by omega, by omega⟩ h
  · have h := zn q h
    refine z_iload X dL_isLine_109 rfl ?_
    refine z_iconst (v := 1) X dL_isLine_111 (by decide) ?_
    refine z_icmp_ne (tgt := 120) X dL_isLine_112 (by decide) (fun q => ?_) (fun q => ?_)
    · have h := zp q h
      refine z_bipush (v := 58) X dL_isLine_115 (by decide) ?_
      refine z_goto (tgt := 185) X dL_isLine_117 (by decide) ?_
      refine zz.pick (lo' := [(0, .ref ob), (1, .int (v1)), (2, .ref (ar 0)), (3, .int (v3)), (4, .int (v4)), (5, .int (s0))]) [0, 1, 2, 3, 4, 5] rfl ?_
      exact bl_isLine_185 X Y hml hr hk20 ⟨by omega, by omega⟩ h
    · have h := zn q h
      refine z_iload X dL_isLine_120 rfl ?_
      refine z_iconst (v := 2) X dL_isLine_122 (by decide) ?_
      refine z_icmp_ne (tgt := 131) X dL_isLine_123 (by decide) (fun q => ?_) (fun q => ?_)
      · have h := zp q h
        refine z_bipush (v := 61) X dL_isLine_126 (by decide) ?_
        refine z_goto (tgt := 185) X dL_isLine_128 (by decide) ?_
        refine zz.pick (lo' := [(0, .ref ob), (1, .int (v1)), (2, .ref (ar 0)), (3, .int (v3)), (4, .int (v4)), (5, .int (s0))]) [0, 1, 2, 3, 4, 5] rfl ?_
        exact bl_isLine_185 X Y hml hr hk20 ⟨by omega, by omega⟩ h
      · have h := zn q h
        refine z_iload X dL_isLine_131 rfl ?_
        refine z_iconst (v := 3) X dL_isLine_133 (by decide) ?_
        refine z_icmp_ne (tgt := 142) X dL_isLine_134 (by decide) (fun q => ?_) (fun q => ?_)
        · have h := zp q h
          refine z_bipush (v := 43) X dL_isLine_137 (by decide) ?_
          refine z_goto (tgt := 185) X dL_isLine_139 (by decide) ?_
          refine zz.pick (lo' := [(0, .ref ob), (1, .int (v1)), (2, .ref (ar 0)), (3, .int (v3)), (4, .int (v4)), (5, .int (s0))]) [0, 1, 2, 3, 4, 5] rfl ?_
          exact bl_isLine_185 X Y hml hr hk20 ⟨by omega, by omega⟩ h
        · have h := zn q h
          refine z_aload_n X dL_isLine_142 rfl rfl ?_
          refine z_iload_n X dL_isLine_143 rfl rfl ?_
          obtain ⟨o1, co1, h⟩ := zb2 h
          refine l_q (As := [.int (v1)]) (rest := []) (nA := 1) (mc := 0) (ms := 0) (rm := ({ frames := 10, cells := 0, slots := 0, locals := 420 } : Room)) (r0 := o1) X (fun _ h11 => cz_stateOf l X.2.2.2.2.2.2.2.2 X.2.2.2.2.2.2.1 h11 (fun _ z => nomatch z) (qo_eq co1)) n_775 n_776 n_777 n_1 n_778 nh_yX11_stateOf ⟨rfl, rfl, Nat.le_of_ble_eq_true rfl, Nat.le_of_ble_eq_true rfl⟩ rfl rfl (Nat.le_of_ble_eq_true rfl) dL_isLine_144 ⟨by show _ ≤ 1036; omega, by show _ ≤ 29600; omega⟩ ?_
          refine z_if_ne (tgt := 155) X dL_isLine_147 (by decide) (fun q => ?_) (fun q => ?_)
          · have h := zp q h
            refine z_bipush (v := 126) X dL_isLine_150 (by decide) ?_
            refine z_goto (tgt := 185) X dL_isLine_152 (by decide) ?_
            refine zz.pick (lo' := [(0, .ref ob), (1, .int (v1)), (2, .ref (ar 0)), (3, .int (v3)), (4, .int (v4)), (5, .int (s0))]) [0, 1, 2, 3, 4, 5] rfl ?_
            exact bl_isLine_185 X Y hml hr hk20 ⟨by omega, by omega⟩ h
          · have h := zn q h
            refine z_aload_n X dL_isLine_155 rfl rfl ?_
            refine z_iload_n X dL_isLine_156 rfl rfl ?_
            obtain ⟨o2, co2, h⟩ := zb2 h
            refine l_q (As := [.int (v1)]) (rest := []) (nA := 1) (mc := 0) (ms := 0) (rm := ({ frames := 10, cells := 0, slots := 0, locals := 420 } : Room)) (r0 := o2) X (fun _ h11 => cz_stateOf l X.2.2.2.2.2.2.2.2 X.2.2.2.2.2.2.1 h11 (fun _ z => nomatch z) (qo_eq co2)) n_775 n_776 n_777 n_1 n_778 nh_yX11_stateOf ⟨rfl, rfl, Nat.le_of_ble_eq_true rfl, Nat.le_of_ble_eq_true rfl⟩ rfl rfl (Nat.le_of_ble_eq_true rfl) dL_isLine_157 ⟨by show _ ≤ 1036; omega, by show _ ≤ 29600; omega⟩ ?_
            refine z_iconst (v := 1) X dL_isLine_160 (by decide) ?_
            refine z_icmp_ne (tgt := 169) X dL_isLine_161 (by decide) (fun q => ?_) (fun q => ?_)
            · have h := zp q h
              refine z_bipush (v := 46) X dL_isLine_164 (by decide) ?_
              refine z_goto (tgt := 185) X dL_isLine_166 (by decide) ?_
              refine zz.pick (lo' := [(0, .ref ob), (1, .int (v1)), (2, .ref (ar 0)), (3, .int (v3)), (4, .int (v4)), (5, .int (s0))]) [0, 1, 2, 3, 4, 5] rfl ?_
              exact bl_isLine_185 X Y hml hr hk20 ⟨by omega, by omega⟩ h
            · have h := zn q h
              refine z_aload_n X dL_isLine_169 rfl rfl ?_
              refine z_iload_n X dL_isLine_170 rfl rfl ?_
              obtain ⟨o3, co3, h⟩ := zb2 h
              refine l_q (As := [.int (v1)]) (rest := []) (nA := 1) (mc := 0) (ms := 0) (rm := ({ frames := 10, cells := 0, slots := 0, locals := 420 } : Room)) (r0 := o3) X (fun _ h11 => cz_stateOf l X.2.2.2.2.2.2.2.2 X.2.2.2.2.2.2.1 h11 (fun _ z => nomatch z) (qo_eq co3)) n_775 n_776 n_777 n_1 n_778 nh_yX11_stateOf ⟨rfl, rfl, Nat.le_of_ble_eq_true rfl, Nat.le_of_ble_eq_true rfl⟩ rfl rfl (Nat.le_of_ble_eq_true rfl) dL_isLine_171 ⟨by show _ ≤ 1036; omega, by show _ ≤ 29600; omega⟩ ?_
              refine z_iconst (v := 2) X dL_isLine_174 (by decide) ?_
              refine z_icmp_ne (tgt := 183) X dL_isLine_175 (by decide) (fun q => ?_) (fun q => ?_)
              · have h := zp q h
                refine z_bipush (v := 33) X dL_isLine_178 (by decide) ?_
                refine z_goto (tgt := 185) X dL_isLine_180 (by decide) ?_
                refine zz.pick (lo' := [(0, .ref ob), (1, .int (v1)), (2, .ref (ar 0)), (3, .int (v3)), (4, .int (v4)), (5, .int (s0))]) [0, 1, 2, 3, 4, 5] rfl ?_
                exact bl_isLine_185 X Y hml hr hk20 ⟨by omega, by omega⟩ h
              · have h := zn q h
                refine z_bipush (v := 63) X dL_isLine_183 (by decide) ?_
                refine zz.pick (lo' := [(0, .ref ob), (1, .int (v1)), (2, .ref (ar 0)), (3, .int (v3)), (4, .int (v4)), (5, .int (s0))]) [0, 1, 2, 3, 4, 5] rfl ?_
                exact bl_isLine_185 X Y hml hr hk20 ⟨by omega, by omega⟩ h
def fl_isLine_20 : Nat → GS → Int32 → Int32 → Int32 → Option (Int32)
  | 0, _, _, _, _ => none
  | n + 1, σ, v1, v3, v4 => (if 5 ≤ v4 then fl_isLine_225 σ v1 v3
  else (if v3 ≤ 0 then fl_isLine_225 σ v1 v3
  else (if v4 = 0 then if v1 < 0 ∨ 64 ≤ (v1).toNatClampNeg then none else (fl_part σ ((σ.2 0 (v1).toNatClampNeg)) (0) (4)).bind fun o2 => fl_isLine_97 (fl_isLine_20 n) σ v1 v3 v4 o2
  else (if v4 = 1 then if v1 < 0 ∨ 64 ≤ (v1).toNatClampNeg then none else (fl_part σ ((σ.2 0 (v1).toNatClampNeg)) (4) (6)).bind fun o4 => fl_isLine_97 (fl_isLine_20 n) σ v1 v3 v4 o4
  else (if v4 = 2 then (aq_seconds σ.1 (v1)).bind fun o5 => fl_isLine_97 (fl_isLine_20 n) σ v1 v3 v4 o5
  else (if v4 = 3 then (aq_charged σ.1 (v1)).bind fun o6 => fl_isLine_97 (fl_isLine_20 n) σ v1 v3 v4 o6
  else (aq_covered σ.1 (v1)).bind fun o7 => fl_isLine_97 (fl_isLine_20 n) σ v1 v3 v4 o7))))))
set_option maxRecDepth 100000 in
set_option maxHeartbeats 4000000 in
theorem bl_isLine_20 {p : Program} {l : Launch} {e : Env} {s : State} {m : MethodId} {args : Array Value} {below : List Frame} {meth : Method} {c : Code} {D : va_G} {dA : Nat → ClassId} {A : Nat → Prop} {ar : Nat → Nat} {ob b Ls : Nat} {sc : Nat → Int32} {σ : GS} {o : Int32} (X : zc p l s m args meth c cL_isLine RL D dA A) (Y : zY s A b Ls sc) (hml : c.maxLocals = 7) (hr : meth.sig.returnType = (some .boolean)) : ∀ (n : Nat) {cells slots : Nat} (hcs : cells + (168 * n + 14) ≤ 1036 ∧ slots + (4800 * n + 400) ≤ 29600) {v1 : Int32} {v3 : Int32} {v4 : Int32}, fl_isLine_20 n σ v1 v3 v4 = some o → zz p l e ({ frames := 14, cells := 1036, slots := 29600, locals := 588 } : Room) s m args below meth c A (gw D dA A σ ob ar) cells slots (MQ below (va_Qi (fun r (_ : Unit) => r = o ∧ True) (fun _ t => gw D dA A σ ob ar t.heap) A) args s (1036) (29600) A) 20 [(0, .ref ob), (1, .int (v1)), (2, .ref (ar 0)), (3, .int (v3)), (4, .int (v4))] [] [] := by
  intro n
  induction n with
  | zero => intro cells slots hcs v1 v3 v4 h; exact (nomatch (show none = some o from h))
  | succ n ih =>
    intro cells slots hcs v1 v3 v4 h
    obtain ⟨hcs1, hcs2⟩ := hcs
    rw [fl_isLine_20] at h
    refine z_iload X dL_isLine_20 rfl ?_
    refine z_iconst (v := 5) X dL_isLine_22 (by decide) ?_
    refine z_icmp_ge (tgt := 225) X dL_isLine_23 (by decide) (fun q => ?_) (fun q => ?_)
    · have h := zp q h
      refine zz.pick (lo' := [(0, .ref ob), (1, .int (v1)), (3, .int (v3))]) [0, 1, 3] rfl ?_
      exact bl_isLine_225 X Y hml hr ⟨by omega, by omega⟩ h
    · have h := zn q h
      refine z_iload_n X dL_isLine_26 rfl rfl ?_
      refine z_if_le (tgt := 225) X dL_isLine_27 (by decide) (fun q => ?_) (fun q => ?_)
      · have h := zp q h
        refine zz.pick (lo' := [(0, .ref ob), (1, .int (v1)), (3, .int (v3))]) [0, 1, 3] rfl ?_
        exact bl_isLine_225 X Y hml hr ⟨by omega, by omega⟩ h
      · have h := zn q h
        refine z_iload X dL_isLine_30 rfl ?_
        refine z_if_ne (tgt := 46) X dL_isLine_32 (by decide) (fun q => ?_) (fun q => ?_)
        · have h := zp q h
          refine z_aload_n X dL_isLine_35 rfl rfl ?_
          refine z_iload_n X dL_isLine_36 rfl rfl ?_
          obtain ⟨q1, h⟩ := zg h
          refine l_ald X 0 rfl q1 dL_isLine_37 ?_
          refine z_iconst (v := 0) X dL_isLine_38 (by decide) ?_
          refine z_iconst (v := 4) X dL_isLine_39 (by decide) ?_
          obtain ⟨o2, co2, h⟩ := zb2 h
          refine z_lSi (As := [.int ((σ.2 0 (v1).toNatClampNeg)), .int (0), .int (4)]) (rest := []) (nA := 3) (mc := 0) (ms := 0) (r0 := o2) (pu := fun (_ : Unit) => True) (G1 := fun _ => gw D dA A σ ob ar) X Y (ll_part l X.2.2.2.2.2.2.2.2 X.2.2.2.2.2.2.1 Y.2.2.2 co2) n_784 n_785 n_0 n_786 nh_yL_part ⟨rfl, rfl, Nat.le_of_ble_eq_true rfl, Nat.le_of_ble_eq_true rfl⟩ rfl rfl (Nat.le_of_ble_eq_true rfl) dL_isLine_40 ⟨by show _ ≤ 1036; omega, by show _ ≤ 29600; omega⟩ (fun _ _ => ?_)
          refine z_goto (tgt := 97) X dL_isLine_43 (by decide) ?_
          refine zz.pick (lo' := [(0, .ref ob), (1, .int (v1)), (2, .ref (ar 0)), (3, .int (v3)), (4, .int (v4))]) [0, 1, 2, 3, 4] rfl ?_
          exact bl_isLine_97 X Y hml hr ih ⟨by omega, by omega⟩ h
        · have h := zn q h
          refine z_iload X dL_isLine_46 rfl ?_
          refine z_iconst (v := 1) X dL_isLine_48 (by decide) ?_
          refine z_icmp_ne (tgt := 64) X dL_isLine_49 (by decide) (fun q => ?_) (fun q => ?_)
          · have h := zp q h
            refine z_aload_n X dL_isLine_52 rfl rfl ?_
            refine z_iload_n X dL_isLine_53 rfl rfl ?_
            obtain ⟨q3, h⟩ := zg h
            refine l_ald X 0 rfl q3 dL_isLine_54 ?_
            refine z_iconst (v := 4) X dL_isLine_55 (by decide) ?_
            refine z_bipush (v := 6) X dL_isLine_56 (by decide) ?_
            obtain ⟨o4, co4, h⟩ := zb2 h
            refine z_lSi (As := [.int ((σ.2 0 (v1).toNatClampNeg)), .int (4), .int (6)]) (rest := []) (nA := 3) (mc := 0) (ms := 0) (r0 := o4) (pu := fun (_ : Unit) => True) (G1 := fun _ => gw D dA A σ ob ar) X Y (ll_part l X.2.2.2.2.2.2.2.2 X.2.2.2.2.2.2.1 Y.2.2.2 co4) n_784 n_785 n_0 n_786 nh_yL_part ⟨rfl, rfl, Nat.le_of_ble_eq_true rfl, Nat.le_of_ble_eq_true rfl⟩ rfl rfl (Nat.le_of_ble_eq_true rfl) dL_isLine_58 ⟨by show _ ≤ 1036; omega, by show _ ≤ 29600; omega⟩ (fun _ _ => ?_)
            refine z_goto (tgt := 97) X dL_isLine_61 (by decide) ?_
            refine zz.pick (lo' := [(0, .ref ob), (1, .int (v1)), (2, .ref (ar 0)), (3, .int (v3)), (4, .int (v4))]) [0, 1, 2, 3, 4] rfl ?_
            exact bl_isLine_97 X Y hml hr ih ⟨by omega, by omega⟩ h
          · have h := zn q h
            refine z_iload X dL_isLine_64 rfl ?_
            refine z_iconst (v := 2) X dL_isLine_66 (by decide) ?_
            refine z_icmp_ne (tgt := 78) X dL_isLine_67 (by decide) (fun q => ?_) (fun q => ?_)
            · have h := zp q h
              refine z_aload_n X dL_isLine_70 rfl rfl ?_
              refine z_iload_n X dL_isLine_71 rfl rfl ?_
              obtain ⟨o5, co5, h⟩ := zb2 h
              refine l_q (As := [.int (v1)]) (rest := []) (nA := 1) (mc := 0) (ms := 0) (rm := ({ frames := 10, cells := 0, slots := 0, locals := 420 } : Room)) (r0 := o5) X (fun _ h11 => cz_seconds l X.2.2.2.2.2.2.2.2 X.2.2.2.2.2.2.1 h11 (fun _ z => nomatch z) (qo_eq co5)) n_904 n_905 n_906 n_1 n_907 nh_yX11_seconds ⟨rfl, rfl, Nat.le_of_ble_eq_true rfl, Nat.le_of_ble_eq_true rfl⟩ rfl rfl (Nat.le_of_ble_eq_true rfl) dL_isLine_72 ⟨by show _ ≤ 1036; omega, by show _ ≤ 29600; omega⟩ ?_
              refine z_goto (tgt := 97) X dL_isLine_75 (by decide) ?_
              refine zz.pick (lo' := [(0, .ref ob), (1, .int (v1)), (2, .ref (ar 0)), (3, .int (v3)), (4, .int (v4))]) [0, 1, 2, 3, 4] rfl ?_
              exact bl_isLine_97 X Y hml hr ih ⟨by omega, by omega⟩ h
            · have h := zn q h
              refine z_iload X dL_isLine_78 rfl ?_
              refine z_iconst (v := 3) X dL_isLine_80 (by decide) ?_
              refine z_icmp_ne (tgt := 92) X dL_isLine_81 (by decide) (fun q => ?_) (fun q => ?_)
              · have h := zp q h
                refine z_aload_n X dL_isLine_84 rfl rfl ?_
                refine z_iload_n X dL_isLine_85 rfl rfl ?_
                obtain ⟨o6, co6, h⟩ := zb2 h
                refine l_q (As := [.int (v1)]) (rest := []) (nA := 1) (mc := 0) (ms := 0) (rm := ({ frames := 10, cells := 0, slots := 0, locals := 420 } : Room)) (r0 := o6) X (fun _ h11 => cz_charged l X.2.2.2.2.2.2.2.2 X.2.2.2.2.2.2.1 h11 (fun _ z => nomatch z) (qo_eq co6)) n_952 n_953 n_954 n_1 n_955 nh_yX11_charged ⟨rfl, rfl, Nat.le_of_ble_eq_true rfl, Nat.le_of_ble_eq_true rfl⟩ rfl rfl (Nat.le_of_ble_eq_true rfl) dL_isLine_86 ⟨by show _ ≤ 1036; omega, by show _ ≤ 29600; omega⟩ ?_
                refine z_goto (tgt := 97) X dL_isLine_89 (by decide) ?_
                refine zz.pick (lo' := [(0, .ref ob), (1, .int (v1)), (2, .ref (ar 0)), (3, .int (v3)), (4, .int (v4))]) [0, 1, 2, 3, 4] rfl ?_
                exact bl_isLine_97 X Y hml hr ih ⟨by omega, by omega⟩ h
              · have h := zn q h
                refine z_aload_n X dL_isLine_92 rfl rfl ?_
                refine z_iload_n X dL_isLine_93 rfl rfl ?_
                obtain ⟨o7, co7, h⟩ := zb2 h
                refine l_q (As := [.int (v1)]) (rest := []) (nA := 1) (mc := 0) (ms := 0) (rm := ({ frames := 10, cells := 0, slots := 0, locals := 420 } : Room)) (r0 := o7) X (fun _ h11 => cz_covered l X.2.2.2.2.2.2.2.2 X.2.2.2.2.2.2.1 h11 (fun _ z => nomatch z) (qo_eq co7)) n_956 n_957 n_958 n_1 n_959 nh_yX11_covered ⟨rfl, rfl, Nat.le_of_ble_eq_true rfl, Nat.le_of_ble_eq_true rfl⟩ rfl rfl (Nat.le_of_ble_eq_true rfl) dL_isLine_94 ⟨by show _ ≤ 1036; omega, by show _ ≤ 29600; omega⟩ ?_
                refine zz.pick (lo' := [(0, .ref ob), (1, .int (v1)), (2, .ref (ar 0)), (3, .int (v3)), (4, .int (v4))]) [0, 1, 2, 3, 4] rfl ?_
                exact bl_isLine_97 X Y hml hr ih ⟨by omega, by omega⟩ h
def fl_isLine_16 (σ : GS) (v1 : Int32) (s0 : Int32) : Option (Int32) := fl_isLine_20 FU σ v1 s0 0
set_option maxRecDepth 100000 in
set_option maxHeartbeats 4000000 in
theorem bl_isLine_16 {p : Program} {l : Launch} {e : Env} {s : State} {m : MethodId} {args : Array Value} {below : List Frame} {meth : Method} {c : Code} {D : va_G} {dA : Nat → ClassId} {A : Nat → Prop} {ar : Nat → Nat} {ob b Ls : Nat} {sc : Nat → Int32} {σ : GS} {o : Int32} (X : zc p l s m args meth c cL_isLine RL D dA A) (Y : zY s A b Ls sc) (hml : c.maxLocals = 7) (hr : meth.sig.returnType = (some .boolean)) {cells slots : Nat} (hcs : cells + (1022) ≤ 1036 ∧ slots + (29200) ≤ 29600) {v1 : Int32} {s0 : Int32} (h : fl_isLine_16 σ v1 s0 = some o) : zz p l e ({ frames := 14, cells := 1036, slots := 29600, locals := 588 } : Room) s m args below meth c A (gw D dA A σ ob ar) cells slots (MQ below (va_Qi (fun r (_ : Unit) => r = o ∧ True) (fun _ t => gw D dA A σ ob ar t.heap) A) args s (1036) (29600) A) 16 [(0, .ref ob), (1, .int (v1)), (2, .ref (ar 0))] [] [.int (s0)] := by
  obtain ⟨hcs1, hcs2⟩ := hcs
  unfold fl_isLine_16 at h
  refine z_istore_n (lo' := [(3, .int (s0)), (0, .ref ob), (1, .int (v1)), (2, .ref (ar 0))]) X dL_isLine_16 rfl (by rw [hml]; decide) rfl rfl ?_
  refine z_iconst (v := 0) X dL_isLine_17 (by decide) ?_
  refine z_istore (lo' := [(4, .int (0)), (3, .int (s0)), (0, .ref ob), (1, .int (v1)), (2, .ref (ar 0))]) X dL_isLine_18 (by rw [hml]; decide) rfl rfl ?_
  refine zz.pick (lo' := [(0, .ref ob), (1, .int (v1)), (2, .ref (ar 0)), (3, .int (s0)), (4, .int (0))]) [0, 1, 2, 3, 4] rfl ?_
  exact bl_isLine_20 X Y hml hr 6 ⟨by omega, by omega⟩ h
def fl_isLine (σ : GS) (a1 : Int32) : Option (Int32) := (aq_lineAt σ.1 (a1) (0)).bind fun o1 => (if o1 = 80 then fl_isLine_16 σ a1 1
  else fl_isLine_16 σ a1 (-1))
set_option maxRecDepth 100000 in
set_option maxHeartbeats 4000000 in
theorem bl_isLine {p : Program} {l : Launch} {e : Env} {s : State} {m : MethodId} {args : Array Value} {below : List Frame} {meth : Method} {c : Code} {D : va_G} {dA : Nat → ClassId} {A : Nat → Prop} {ar : Nat → Nat} {ob b Ls : Nat} {sc : Nat → Int32} {σ : GS} {o : Int32} (X : zc p l s m args meth c cL_isLine RL D dA A) (Y : zY s A b Ls sc) (hml : c.maxLocals = 7) (hr : meth.sig.returnType = (some .boolean)) {cells slots : Nat} (hcs : cells + (1036) ≤ 1036 ∧ slots + (29600) ≤ 29600) {a1 : Int32} (h : fl_isLine σ a1 = some o) : zz p l e ({ frames := 14, cells := 1036, slots := 29600, locals := 588 } : Room) s m args below meth c A (gw D dA A σ ob ar) cells slots (MQ below (va_Qi (fun r (_ : Unit) => r = o ∧ True) (fun _ t => gw D dA A σ ob ar t.heap) A) args s (1036) (29600) A) 0 [(0, .ref ob), (1, .int (a1)), (2, .ref (ar 0))] [] [] := by
  obtain ⟨hcs1, hcs2⟩ := hcs
  unfold fl_isLine at h
  refine z_aload_n X dL_isLine_0 rfl rfl ?_
  refine z_iload_n X dL_isLine_1 rfl rfl ?_
  refine z_iconst (v := 0) X dL_isLine_2 (by decide) ?_
  obtain ⟨o1, co1, h⟩ := zb2 h
  refine l_q (As := [.int (a1), .int (0)]) (rest := []) (nA := 2) (mc := 14) (ms := 400) (rm := ({ frames := 12, cells := 14, slots := 400, locals := 504 } : Room)) (r0 := o1) X (fun _ h11 => cc_lineAt l X.2.2.2.2.2.2.2.2 X.2.2.2.2.2.2.1 h11 (qo_eq co1)) n_970 n_971 n_972 n_1 n_973 nh_yX11_lineAt ⟨rfl, rfl, Nat.le_of_ble_eq_true rfl, Nat.le_of_ble_eq_true rfl⟩ rfl rfl (Nat.le_of_ble_eq_true rfl) dL_isLine_3 ⟨by show _ ≤ 1036; omega, by show _ ≤ 29600; omega⟩ ?_
  refine z_bipush (v := 80) X dL_isLine_6 (by decide) ?_
  refine z_icmp_ne (tgt := 15) X dL_isLine_8 (by decide) (fun q => ?_) (fun q => ?_)
  · have h := zp q h
    refine z_iconst (v := 1) X dL_isLine_11 (by decide) ?_
    refine z_goto (tgt := 16) X dL_isLine_12 (by decide) ?_
    refine zz.pick (lo' := [(0, .ref ob), (1, .int (a1)), (2, .ref (ar 0))]) [0, 1, 2] rfl ?_
    exact bl_isLine_16 X Y hml hr ⟨by omega, by omega⟩ h
  · have h := zn q h
    refine z_iconst (v := (-1)) X dL_isLine_15 (by decide) ?_
    refine zz.pick (lo' := [(0, .ref ob), (1, .int (a1)), (2, .ref (ar 0))]) [0, 1, 2] rfl ?_
    exact bl_isLine_16 X Y hml hr ⟨by omega, by omega⟩ h
theorem ll_isLine (l : Launch) {D : va_G} {dA : Nat → ClassId} {A : Nat → Prop} {n : Nat} {ar : Nat → Nat} {ob b Ls : Nat} {sc : Nat → Int32} (hst : l.stackTraces = false) (hA : ∀ q, n ≤ q → A q) (hbA : ¬ A b) {σ : GS} {a1 : Int32} {o : Int32} (h : fl_isLine σ a1 = some o) : Met l yL_isLine (.code yL_isLine cL_isLine 7 (some .boolean) :: gT) ({ frames := 14, cells := 1036, slots := 29600, locals := 588 } : Room) (va_Pc [.ref ob, .int (a1), .ref (ar 0)] (zBL D dA A n b Ls sc (gw D dA A σ ob ar))) (va_Qi (fun r (_ : Unit) => r = o ∧ True) (fun _ t => gw D dA A σ ob ar t.heap) A) (1036) (29600) A :=
  z_metL (by decide) hA hbA hst (Nat.le_of_ble_eq_true rfl) rfl rfl (fun p e s m below meth c X Y hml hr => bl_isLine X Y hml hr ⟨by omega, by omega⟩ h)
-- joins([I[I[IIII)V
def fl_joins (σ : GS) (a1 : Int32) (a2 : Int32) (a3 : Int32) : Option (GS) := if (σ.2 2 (2).toNatClampNeg) < 0 ∨ 64 ≤ ((σ.2 2 (2).toNatClampNeg)).toNatClampNeg then none else (some ((σ.1, cs σ.2 0 ((σ.2 2 (2).toNatClampNeg)).toNatClampNeg ((((a1 ||| (a2 <<< (4 &&& 31))) ||| (a3 <<< (10 &&& 31))) ||| ((σ.2 2 (0).toNatClampNeg) <<< (14 &&& 31))))) : GS)).bind fun σ1 => (fl_event σ1 (a1) (0) ((σ1.2 2 (0).toNatClampNeg)) (a3)).bind fun o3 => if (σ1.2 2 (2).toNatClampNeg) < 0 ∨ 64 ≤ ((σ1.2 2 (2).toNatClampNeg)).toNatClampNeg then none else (some ((σ1.1, cs σ1.2 1 ((σ1.2 2 (2).toNatClampNeg)).toNatClampNeg (o3)) : GS)).bind fun σ4 => if 2 < 0 ∨ 5 ≤ (2).toNatClampNeg then none else (some ((σ4.1, cs σ4.2 2 (2).toNatClampNeg (((σ4.2 2 (2).toNatClampNeg) + 1))) : GS)).bind fun σ6 => some σ6
set_option maxRecDepth 100000 in
set_option maxHeartbeats 4000000 in
theorem bl_joins {p : Program} {l : Launch} {e : Env} {s : State} {m : MethodId} {args : Array Value} {below : List Frame} {meth : Method} {c : Code} {D : va_G} {dA : Nat → ClassId} {A : Nat → Prop} {ar : Nat → Nat} {ob b Ls : Nat} {sc : Nat → Int32} {o : GS} (X : zc p l s m args meth c cL_joins RL D dA A) (Y : zY s A b Ls sc) (hml : c.maxLocals = 6) (hr : meth.sig.returnType = none) {σ : GS} {a1 : Int32} {a2 : Int32} {a3 : Int32} (h : fl_joins σ a1 a2 a3 = some o) : zz p l e ({ frames := 2, cells := 0, slots := 0, locals := 84 } : Room) s m args below meth c A (gw D dA A σ ob ar) 0 0 (MQ below (va_Qv (fun (_ : Unit) => True) (fun _ t => gw D dA A o ob ar t.heap) A) args s (0) (0) A) 0 [(0, .ref (ar 0)), (1, .ref (ar 1)), (2, .ref (ar 2)), (3, .int (a1)), (4, .int (a2)), (5, .int (a3))] [] [] := by
  unfold fl_joins at h
  refine z_aload_n X dL_joins_0 rfl rfl ?_
  refine z_aload_n X dL_joins_1 rfl rfl ?_
  refine z_iconst (v := 2) X dL_joins_2 (by decide) ?_
  refine l_ald X 2 rfl (by decide) dL_joins_3 ?_
  refine z_iload_n X dL_joins_4 rfl rfl ?_
  refine z_iload X dL_joins_5 rfl ?_
  refine z_iconst (v := 4) X dL_joins_7 (by decide) ?_
  refine z_ishl X dL_joins_8 ?_
  refine z_ior X dL_joins_9 ?_
  refine z_iload X dL_joins_10 rfl ?_
  refine z_bipush (v := 10) X dL_joins_12 (by decide) ?_
  refine z_ishl X dL_joins_14 ?_
  refine z_ior X dL_joins_15 ?_
  refine z_aload_n X dL_joins_16 rfl rfl ?_
  refine z_iconst (v := 0) X dL_joins_17 (by decide) ?_
  refine l_ald X 2 rfl (by decide) dL_joins_18 ?_
  refine z_bipush (v := 14) X dL_joins_19 (by decide) ?_
  refine z_ishl X dL_joins_21 ?_
  refine z_ior X dL_joins_22 ?_
  obtain ⟨q2, h⟩ := zg h
  obtain ⟨σ1, eσ1, h⟩ := zb h
  refine l_ast X 0 rfl q2 eσ1 dL_joins_23 ?_
  refine z_aload_n X dL_joins_24 rfl rfl ?_
  refine z_aload_n X dL_joins_25 rfl rfl ?_
  refine z_iconst (v := 2) X dL_joins_26 (by decide) ?_
  refine l_ald X 2 rfl (by decide) dL_joins_27 ?_
  refine z_iload_n X dL_joins_28 rfl rfl ?_
  refine z_iconst (v := 0) X dL_joins_29 (by decide) ?_
  refine z_aload_n X dL_joins_30 rfl rfl ?_
  refine z_iconst (v := 0) X dL_joins_31 (by decide) ?_
  refine l_ald X 2 rfl (by decide) dL_joins_32 ?_
  refine z_iload X dL_joins_33 rfl ?_
  obtain ⟨o3, co3, h⟩ := zb2 h
  refine z_lSi (As := [.int (a1), .int (0), .int ((σ1.2 2 (0).toNatClampNeg)), .int (a3)]) (rest := [.int ((σ1.2 2 (2).toNatClampNeg)), .ref (ar 1)]) (nA := 4) (mc := 0) (ms := 0) (r0 := o3) (pu := fun (_ : Unit) => True) (G1 := fun _ => gw D dA A σ1 ob ar) X Y (ll_event l X.2.2.2.2.2.2.2.2 X.2.2.2.2.2.2.1 Y.2.2.2 co3) n_768 n_769 n_0 n_770 nh_yL_event ⟨rfl, rfl, Nat.le_of_ble_eq_true rfl, Nat.le_of_ble_eq_true rfl⟩ rfl rfl (Nat.le_of_ble_eq_true rfl) dL_joins_35 ⟨by show _ ≤ 0; omega, by show _ ≤ 0; omega⟩ (fun _ _ => ?_)
  obtain ⟨q5, h⟩ := zg h
  obtain ⟨σ4, eσ4, h⟩ := zb h
  refine l_ast X 1 rfl q5 eσ4 dL_joins_38 ?_
  refine z_aload_n X dL_joins_39 rfl rfl ?_
  refine z_iconst (v := 2) X dL_joins_40 (by decide) ?_
  refine z_dup2 X dL_joins_41 rfl rfl ?_
  refine l_ald X 2 rfl (by decide) dL_joins_42 ?_
  refine z_iconst (v := 1) X dL_joins_43 (by decide) ?_
  refine z_iadd X dL_joins_44 ?_
  obtain ⟨q7, h⟩ := zg h
  obtain ⟨σ6, eσ6, h⟩ := zb h
  refine l_ast X 2 rfl q7 eσ6 dL_joins_45 ?_
  obtain rfl := Option.some.inj h
  exact z_vret X hr (fun t hG hF _ => ⟨⟨(), rfl, trivial, hG⟩, hF⟩) dL_joins_46
theorem ll_joins (l : Launch) {D : va_G} {dA : Nat → ClassId} {A : Nat → Prop} {n : Nat} {ar : Nat → Nat} {ob b Ls : Nat} {sc : Nat → Int32} (hst : l.stackTraces = false) (hA : ∀ q, n ≤ q → A q) (hbA : ¬ A b) {σ : GS} {a1 : Int32} {a2 : Int32} {a3 : Int32} {o : GS} (h : fl_joins σ a1 a2 a3 = some o) : Met l yL_joins (.code yL_joins cL_joins 6 none :: gT) ({ frames := 2, cells := 0, slots := 0, locals := 84 } : Room) (va_Pc [.ref (ar 0), .ref (ar 1), .ref (ar 2), .int (a1), .int (a2), .int (a3)] (zBL D dA A n b Ls sc (gw D dA A σ ob ar))) (va_Qv (fun (_ : Unit) => True) (fun _ t => gw D dA A o ob ar t.heap) A) (0) (0) A :=
  z_metL (by decide) hA hbA hst (Nat.le_of_ble_eq_true rfl) rfl rfl (fun p e s m below meth c X Y hml hr => bl_joins X Y hml hr h)
-- calls(LMeshBiller;III[I[I[I)Z
def fl_calls_75 (σ : GS) (v7 : Int32) (v8 : Int32) (v10 : Int32) : Option (GS × Int32) := (if v7 = v8 then (if v10 = (-109) then some (σ, 1)
  else some (σ, 0))
  else (if v10 = (-108) then some (σ, 1)
  else some (σ, 0)))
set_option maxRecDepth 100000 in
set_option maxHeartbeats 4000000 in
theorem bl_calls_75 {p : Program} {l : Launch} {e : Env} {s : State} {m : MethodId} {args : Array Value} {below : List Frame} {meth : Method} {c : Code} {D : va_G} {dA : Nat → ClassId} {A : Nat → Prop} {ar : Nat → Nat} {ob b Ls : Nat} {sc : Nat → Int32} {o : GS × Int32} (X : zc p l s m args meth c cL_calls RL D dA A) (Y : zY s A b Ls sc) (hml : c.maxLocals = 13) (hr : meth.sig.returnType = (some .boolean)) {cells slots : Nat} (hcs : cells + (0) ≤ 27 ∧ slots + (0) ≤ 13082) {σ : GS} {v7 : Int32} {v8 : Int32} {v10 : Int32} (h : fl_calls_75 σ v7 v8 v10 = some o) : zz p l e ({ frames := 16, cells := 27, slots := 13082, locals := 672 } : Room) s m args below meth c A (gw D dA A σ ob ar) cells slots (MQ below (va_Qi (fun r (_ : Unit) => r = o.2 ∧ True) (fun _ t => gw D dA A o.1 ob ar t.heap) A) args s (27) (13082) A) 75 [(7, .int (v7)), (8, .int (v8)), (10, .int (v10))] [] [] := by
  obtain ⟨hcs1, hcs2⟩ := hcs
  unfold fl_calls_75 at h
  refine z_iload X dL_calls_75 rfl ?_
  refine z_iload X dL_calls_77 rfl ?_
  refine z_iload X dL_calls_79 rfl ?_
  refine z_icmp_ne (tgt := 89) X dL_calls_81 (by decide) (fun q => ?_) (fun q => ?_)
  · have h := zp q h
    refine z_bipush (v := (-109)) X dL_calls_84 (by decide) ?_
    refine z_goto (tgt := 91) X dL_calls_86 (by decide) ?_
    refine z_icmp_ne (tgt := 98) X dL_calls_91 (by decide) (fun q => ?_) (fun q => ?_)
    · have h := zp q h
      refine z_iconst (v := 1) X dL_calls_94 (by decide) ?_
      refine z_goto (tgt := 99) X dL_calls_95 (by decide) ?_
      obtain rfl := Option.some.inj h
      refine zz.widen (k := 27) (n := 13082) (by omega) (by omega) ?_
      exact z_iret X hr rfl (fun t hG hF _ => ⟨⟨_, (), rfl, ⟨rfl, trivial⟩, hG⟩, hF⟩) dL_calls_99
    · have h := zn q h
      refine z_iconst (v := 0) X dL_calls_98 (by decide) ?_
      obtain rfl := Option.some.inj h
      refine zz.widen (k := 27) (n := 13082) (by omega) (by omega) ?_
      exact z_iret X hr rfl (fun t hG hF _ => ⟨⟨_, (), rfl, ⟨rfl, trivial⟩, hG⟩, hF⟩) dL_calls_99
  · have h := zn q h
    refine z_bipush (v := (-108)) X dL_calls_89 (by decide) ?_
    refine z_icmp_ne (tgt := 98) X dL_calls_91 (by decide) (fun q => ?_) (fun q => ?_)
    · have h := zp q h
      refine z_iconst (v := 1) X dL_calls_94 (by decide) ?_
      refine z_goto (tgt := 99) X dL_calls_95 (by decide) ?_
      obtain rfl := Option.some.inj h
      refine zz.widen (k := 27) (n := 13082) (by omega) (by omega) ?_
      exact z_iret X hr rfl (fun t hG hF _ => ⟨⟨_, (), rfl, ⟨rfl, trivial⟩, hG⟩, hF⟩) dL_calls_99
    · have h := zn q h
      refine z_iconst (v := 0) X dL_calls_98 (by decide) ?_
      obtain rfl := Option.some.inj h
      refine zz.widen (k := 27) (n := 13082) (by omega) (by omega) ?_
      exact z_iret X hr rfl (fun t hG hF _ => ⟨⟨_, (), rfl, ⟨rfl, trivial⟩, hG⟩, hF⟩) dL_calls_99
def fl_calls_39 (σ : GS) (v3 : Int32) (v7 : Int32) (v8 : Int32) (s0 : Int32) : Option (GS × Int32) := (ak_begin σ.1 (v7) (v8) (((v3 / 10) - (v3 / 10) / 2 * 2))).bind fun o1 => (some ((o1.1, σ.2) : GS)).bind fun σ2 => (some (o1.2)).bind fun x3 => (if v7 = v8 then fl_calls_75 σ2 v7 v8 x3
  else (if s0 = 0 then (if 0 ≤ x3 then (aq_cellOf σ2.1 (v7)).bind fun o4 => (fl_joins σ2 (v7) ((σ2.2 2 (1).toNatClampNeg)) (o4)).bind fun o5 => (aq_cellOf o5.1 (v8)).bind fun o6 => (fl_joins o5 (v8) ((o5.2 2 (1).toNatClampNeg)) (o6)).bind fun o7 => if 1 < 0 ∨ 5 ≤ (1).toNatClampNeg then none else (some ((o7.1, cs o7.2 2 (1).toNatClampNeg (((o7.2 2 (1).toNatClampNeg) + 1))) : GS)).bind fun σ8 => (if x3 = ((σ8.2 2 (1).toNatClampNeg) - 1) then some (σ8, 1)
  else some (σ8, 0))
  else fl_calls_75 σ2 v7 v8 x3)
  else fl_calls_75 σ2 v7 v8 x3))
set_option maxRecDepth 100000 in
set_option maxHeartbeats 4000000 in
theorem bl_calls_39 {p : Program} {l : Launch} {e : Env} {s : State} {m : MethodId} {args : Array Value} {below : List Frame} {meth : Method} {c : Code} {D : va_G} {dA : Nat → ClassId} {A : Nat → Prop} {ar : Nat → Nat} {ob b Ls : Nat} {sc : Nat → Int32} {o : GS × Int32} (X : zc p l s m args meth c cL_calls RL D dA A) (Y : zY s A b Ls sc) (hml : c.maxLocals = 13) (hr : meth.sig.returnType = (some .boolean)) {cells slots : Nat} (hcs : cells + (27) ≤ 27 ∧ slots + (13082) ≤ 13082) {σ : GS} {v3 : Int32} {v7 : Int32} {v8 : Int32} {s0 : Int32} (h : fl_calls_39 σ v3 v7 v8 s0 = some o) : zz p l e ({ frames := 16, cells := 27, slots := 13082, locals := 672 } : Room) s m args below meth c A (gw D dA A σ ob ar) cells slots (MQ below (va_Qi (fun r (_ : Unit) => r = o.2 ∧ True) (fun _ t => gw D dA A o.1 ob ar t.heap) A) args s (27) (13082) A) 39 [(0, .ref ob), (3, .int (v3)), (4, .ref (ar 0)), (5, .ref (ar 1)), (6, .ref (ar 2)), (7, .int (v7)), (8, .int (v8))] [] [.int (s0)] := by
  obtain ⟨hcs1, hcs2⟩ := hcs
  unfold fl_calls_39 at h
  refine z_istore (lo' := [(9, .int (s0)), (0, .ref ob), (3, .int (v3)), (4, .ref (ar 0)), (5, .ref (ar 1)), (6, .ref (ar 2)), (7, .int (v7)), (8, .int (v8))]) X dL_calls_39 (by rw [hml]; decide) rfl rfl ?_
  refine z_aload_n X dL_calls_41 rfl rfl ?_
  refine z_iconst (v := 0) X dL_calls_42 (by decide) ?_
  refine z_iload X dL_calls_43 rfl ?_
  refine z_iload X dL_calls_45 rfl ?_
  refine z_iload_n X dL_calls_47 rfl rfl ?_
  refine z_bipush (v := 10) X dL_calls_48 (by decide) ?_
  refine z_idiv X dL_calls_50 (by decide) ?_
  refine z_iconst (v := 2) X dL_calls_51 (by decide) ?_
  refine z_irem X dL_calls_52 (by decide) ?_
  obtain ⟨o1, co1, h⟩ := zb2 h
  obtain ⟨σ2, eσ2, h⟩ := zb h
  refine z_callWi (As := [.ref ob, .int (0), .int (v7), .int (v8), .int (((v3 / 10) - (v3 / 10) / 2 * 2))]) (rest := []) (nA := 5) (mc := 27) (ms := 13082) (rm := ({ frames := 15, cells := 27, slots := 13082, locals := 630 } : Room)) (S := Unit) (post := fun r _ => r = o1.2 ∧ True) (G1 := fun _ => gw D dA A (o1.1, σ.2) ob ar) X Y.1 (la_begin l X.2.2.2.2.2.2.2.2 X.2.2.2.2.2.2.1 co1) n_390 n_391 n_0 n_392 nh_yL_asks ⟨rfl, rfl, Nat.le_of_ble_eq_true rfl, Nat.le_of_ble_eq_true rfl⟩ rfl rfl (Nat.le_of_ble_eq_true rfl) dL_calls_53 ⟨by show _ ≤ 27; omega, by show _ ≤ 13082; omega⟩ (fun r9 _ hr9 => ?_)
  obtain ⟨rfl, -⟩ := hr9
  rw [eσ2]
  obtain ⟨x3, ex3, h⟩ := zb h
  rw [ex3]
  refine z_istore (lo' := [(10, .int (x3)), (9, .int (s0)), (0, .ref ob), (3, .int (v3)), (4, .ref (ar 0)), (5, .ref (ar 1)), (6, .ref (ar 2)), (7, .int (v7)), (8, .int (v8))]) X dL_calls_56 (by rw [hml]; decide) rfl rfl ?_
  refine z_iload X dL_calls_58 rfl ?_
  refine z_iload X dL_calls_60 rfl ?_
  refine z_icmp_eq (tgt := 75) X dL_calls_62 (by decide) (fun q => ?_) (fun q => ?_)
  · have h := zp q h
    refine zz.pick (lo' := [(7, .int (v7)), (8, .int (v8)), (10, .int (x3))]) [7, 8, 10] rfl ?_
    exact bl_calls_75 X Y hml hr ⟨by omega, by omega⟩ h
  · have h := zn q h
    refine z_iload X dL_calls_65 rfl ?_
    refine z_if_ne (tgt := 75) X dL_calls_67 (by decide) (fun q => ?_) (fun q => ?_)
    · have h := zp q h
      refine z_iload X dL_calls_70 rfl ?_
      refine z_if_ge (tgt := 100) X dL_calls_72 (by decide) (fun q => ?_) (fun q => ?_)
      · have h := zp q h
        refine z_aload X dL_calls_100 rfl ?_
        refine z_aload X dL_calls_102 rfl ?_
        refine z_aload X dL_calls_104 rfl ?_
        refine z_iload X dL_calls_106 rfl ?_
        refine z_aload X dL_calls_108 rfl ?_
        refine z_iconst (v := 1) X dL_calls_110 (by decide) ?_
        refine l_ald X 2 rfl (by decide) dL_calls_111 ?_
        refine z_aload_n X dL_calls_112 rfl rfl ?_
        refine z_iload X dL_calls_113 rfl ?_
        obtain ⟨o4, co4, h⟩ := zb2 h
        refine l_q (As := [.int (v7)]) (rest := [.int ((σ2.2 2 (1).toNatClampNeg)), .int (v7), .ref (ar 2), .ref (ar 1), .ref (ar 0)]) (nA := 1) (mc := 0) (ms := 0) (rm := ({ frames := 7, cells := 0, slots := 0, locals := 294 } : Room)) (r0 := o4) X (fun _ h11 => cz_cellOf l X.2.2.2.2.2.2.2.2 X.2.2.2.2.2.2.1 h11 (fun _ z => nomatch z) (qo_eq co4)) n_761 n_762 n_763 n_1 n_764 nh_yX11_cellOf ⟨rfl, rfl, Nat.le_of_ble_eq_true rfl, Nat.le_of_ble_eq_true rfl⟩ rfl rfl (Nat.le_of_ble_eq_true rfl) dL_calls_115 ⟨by show _ ≤ 27; omega, by show _ ≤ 13082; omega⟩ ?_
        obtain ⟨o5, co5, h⟩ := zb2 h
        refine z_lSv (As := [.ref (ar 0), .ref (ar 1), .ref (ar 2), .int (v7), .int ((σ2.2 2 (1).toNatClampNeg)), .int (o4)]) (rest := []) (nA := 6) (mc := 0) (ms := 0) (pu := fun (_ : Unit) => True) (G1 := fun _ => gw D dA A o5 ob ar) X Y (ll_joins l X.2.2.2.2.2.2.2.2 X.2.2.2.2.2.2.1 Y.2.2.2 co5) n_765 n_766 n_0 n_767 nh_yL_joins ⟨rfl, rfl, Nat.le_of_ble_eq_true rfl, Nat.le_of_ble_eq_true rfl⟩ rfl rfl (Nat.le_of_ble_eq_true rfl) dL_calls_118 ⟨by show _ ≤ 27; omega, by show _ ≤ 13082; omega⟩ (fun _ _ => ?_)
        refine z_aload X dL_calls_121 rfl ?_
        refine z_aload X dL_calls_123 rfl ?_
        refine z_aload X dL_calls_125 rfl ?_
        refine z_iload X dL_calls_127 rfl ?_
        refine z_aload X dL_calls_129 rfl ?_
        refine z_iconst (v := 1) X dL_calls_131 (by decide) ?_
        refine l_ald X 2 rfl (by decide) dL_calls_132 ?_
        refine z_aload_n X dL_calls_133 rfl rfl ?_
        refine z_iload X dL_calls_134 rfl ?_
        obtain ⟨o6, co6, h⟩ := zb2 h
        refine l_q (As := [.int (v8)]) (rest := [.int ((o5.2 2 (1).toNatClampNeg)), .int (v8), .ref (ar 2), .ref (ar 1), .ref (ar 0)]) (nA := 1) (mc := 0) (ms := 0) (rm := ({ frames := 7, cells := 0, slots := 0, locals := 294 } : Room)) (r0 := o6) X (fun _ h11 => cz_cellOf l X.2.2.2.2.2.2.2.2 X.2.2.2.2.2.2.1 h11 (fun _ z => nomatch z) (qo_eq co6)) n_761 n_762 n_763 n_1 n_764 nh_yX11_cellOf ⟨rfl, rfl, Nat.le_of_ble_eq_true rfl, Nat.le_of_ble_eq_true rfl⟩ rfl rfl (Nat.le_of_ble_eq_true rfl) dL_calls_136 ⟨by show _ ≤ 27; omega, by show _ ≤ 13082; omega⟩ ?_
        obtain ⟨o7, co7, h⟩ := zb2 h
        refine z_lSv (As := [.ref (ar 0), .ref (ar 1), .ref (ar 2), .int (v8), .int ((o5.2 2 (1).toNatClampNeg)), .int (o6)]) (rest := []) (nA := 6) (mc := 0) (ms := 0) (pu := fun (_ : Unit) => True) (G1 := fun _ => gw D dA A o7 ob ar) X Y (ll_joins l X.2.2.2.2.2.2.2.2 X.2.2.2.2.2.2.1 Y.2.2.2 co7) n_765 n_766 n_0 n_767 nh_yL_joins ⟨rfl, rfl, Nat.le_of_ble_eq_true rfl, Nat.le_of_ble_eq_true rfl⟩ rfl rfl (Nat.le_of_ble_eq_true rfl) dL_calls_139 ⟨by show _ ≤ 27; omega, by show _ ≤ 13082; omega⟩ (fun _ _ => ?_)
        refine z_aload X dL_calls_142 rfl ?_
        refine z_iconst (v := 1) X dL_calls_144 (by decide) ?_
        refine z_dup2 X dL_calls_145 rfl rfl ?_
        refine l_ald X 2 rfl (by decide) dL_calls_146 ?_
        refine z_iconst (v := 1) X dL_calls_147 (by decide) ?_
        refine z_iadd X dL_calls_148 ?_
        obtain ⟨q9, h⟩ := zg h
        obtain ⟨σ8, eσ8, h⟩ := zb h
        refine l_ast X 2 rfl q9 eσ8 dL_calls_149 ?_
        refine z_iload X dL_calls_150 rfl ?_
        refine z_aload X dL_calls_152 rfl ?_
        refine z_iconst (v := 1) X dL_calls_154 (by decide) ?_
        refine l_ald X 2 rfl (by decide) dL_calls_155 ?_
        refine z_iconst (v := 1) X dL_calls_156 (by decide) ?_
        refine z_isub X dL_calls_157 ?_
        refine z_icmp_ne (tgt := 165) X dL_calls_158 (by decide) (fun q => ?_) (fun q => ?_)
        · have h := zp q h
          refine z_iconst (v := 1) X dL_calls_161 (by decide) ?_
          refine z_goto (tgt := 166) X dL_calls_162 (by decide) ?_
          obtain rfl := Option.some.inj h
          refine zz.widen (k := 27) (n := 13082) (by omega) (by omega) ?_
          exact z_iret X hr rfl (fun t hG hF _ => ⟨⟨_, (), rfl, ⟨rfl, trivial⟩, hG⟩, hF⟩) dL_calls_166
        · have h := zn q h
          refine z_iconst (v := 0) X dL_calls_165 (by decide) ?_
          obtain rfl := Option.some.inj h
          refine zz.widen (k := 27) (n := 13082) (by omega) (by omega) ?_
          exact z_iret X hr rfl (fun t hG hF _ => ⟨⟨_, (), rfl, ⟨rfl, trivial⟩, hG⟩, hF⟩) dL_calls_166
      · have h := zn q h
        refine zz.pick (lo' := [(7, .int (v7)), (8, .int (v8)), (10, .int (x3))]) [7, 8, 10] rfl ?_
        exact bl_calls_75 X Y hml hr ⟨by omega, by omega⟩ h
    · have h := zn q h
      refine zz.pick (lo' := [(7, .int (v7)), (8, .int (v8)), (10, .int (x3))]) [7, 8, 10] rfl ?_
      exact bl_calls_75 X Y hml hr ⟨by omega, by omega⟩ h
def fl_calls_34 (σ : GS) (v3 : Int32) (v7 : Int32) (v8 : Int32) : Option (GS × Int32) := fl_calls_39 σ v3 v7 v8 1
set_option maxRecDepth 100000 in
set_option maxHeartbeats 4000000 in
theorem bl_calls_34 {p : Program} {l : Launch} {e : Env} {s : State} {m : MethodId} {args : Array Value} {below : List Frame} {meth : Method} {c : Code} {D : va_G} {dA : Nat → ClassId} {A : Nat → Prop} {ar : Nat → Nat} {ob b Ls : Nat} {sc : Nat → Int32} {o : GS × Int32} (X : zc p l s m args meth c cL_calls RL D dA A) (Y : zY s A b Ls sc) (hml : c.maxLocals = 13) (hr : meth.sig.returnType = (some .boolean)) {cells slots : Nat} (hcs : cells + (27) ≤ 27 ∧ slots + (13082) ≤ 13082) {σ : GS} {v3 : Int32} {v7 : Int32} {v8 : Int32} (h : fl_calls_34 σ v3 v7 v8 = some o) : zz p l e ({ frames := 16, cells := 27, slots := 13082, locals := 672 } : Room) s m args below meth c A (gw D dA A σ ob ar) cells slots (MQ below (va_Qi (fun r (_ : Unit) => r = o.2 ∧ True) (fun _ t => gw D dA A o.1 ob ar t.heap) A) args s (27) (13082) A) 34 [(0, .ref ob), (3, .int (v3)), (4, .ref (ar 0)), (5, .ref (ar 1)), (6, .ref (ar 2)), (7, .int (v7)), (8, .int (v8))] [] [] := by
  obtain ⟨hcs1, hcs2⟩ := hcs
  unfold fl_calls_34 at h
  refine z_iconst (v := 1) X dL_calls_34 (by decide) ?_
  refine z_goto (tgt := 39) X dL_calls_35 (by decide) ?_
  refine zz.pick (lo' := [(0, .ref ob), (3, .int (v3)), (4, .ref (ar 0)), (5, .ref (ar 1)), (6, .ref (ar 2)), (7, .int (v7)), (8, .int (v8))]) [0, 3, 4, 5, 6, 7, 8] rfl ?_
  exact bl_calls_39 X Y hml hr ⟨by omega, by omega⟩ h
def fl_calls_345 (σ : GS) (v11 : Int32) (s0 : Int32) (s1 : Int32) (s2 : Int32) : Option (GS × Int32) := (if s0 = (s1 + s2) then (aq_stateOf σ.1 (v11)).bind fun o1 => (if o1 = 0 then some (σ, 1)
  else (aq_stateOf σ.1 (v11)).bind fun o2 => (if o2 = 2 then some (σ, 1)
  else some (σ, 0)))
  else some (σ, 0))
set_option maxRecDepth 100000 in
set_option maxHeartbeats 4000000 in
theorem bl_calls_345 {p : Program} {l : Launch} {e : Env} {s : State} {m : MethodId} {args : Array Value} {below : List Frame} {meth : Method} {c : Code} {D : va_G} {dA : Nat → ClassId} {A : Nat → Prop} {ar : Nat → Nat} {ob b Ls : Nat} {sc : Nat → Int32} {o : GS × Int32} (X : zc p l s m args meth c cL_calls RL D dA A) (Y : zY s A b Ls sc) (hml : c.maxLocals = 13) (hr : meth.sig.returnType = (some .boolean)) {cells slots : Nat} (hcs : cells + (0) ≤ 27 ∧ slots + (0) ≤ 13082) {σ : GS} {v11 : Int32} {s0 : Int32} {s1 : Int32} {s2 : Int32} (h : fl_calls_345 σ v11 s0 s1 s2 = some o) : zz p l e ({ frames := 16, cells := 27, slots := 13082, locals := 672 } : Room) s m args below meth c A (gw D dA A σ ob ar) cells slots (MQ below (va_Qi (fun r (_ : Unit) => r = o.2 ∧ True) (fun _ t => gw D dA A o.1 ob ar t.heap) A) args s (27) (13082) A) 345 [(0, .ref ob), (11, .int (v11))] [] [.int (s2), .int (s1), .int (s0)] := by
  obtain ⟨hcs1, hcs2⟩ := hcs
  unfold fl_calls_345 at h
  refine z_iadd X dL_calls_345 ?_
  refine z_icmp_ne (tgt := 372) X dL_calls_346 (by decide) (fun q => ?_) (fun q => ?_)
  · have h := zp q h
    refine z_aload_n X dL_calls_349 rfl rfl ?_
    refine z_iload X dL_calls_350 rfl ?_
    obtain ⟨o1, co1, h⟩ := zb2 h
    refine l_q (As := [.int (v11)]) (rest := []) (nA := 1) (mc := 0) (ms := 0) (rm := ({ frames := 10, cells := 0, slots := 0, locals := 420 } : Room)) (r0 := o1) X (fun _ h11 => cz_stateOf l X.2.2.2.2.2.2.2.2 X.2.2.2.2.2.2.1 h11 (fun _ z => nomatch z) (qo_eq co1)) n_775 n_776 n_777 n_1 n_778 nh_yX11_stateOf ⟨rfl, rfl, Nat.le_of_ble_eq_true rfl, Nat.le_of_ble_eq_true rfl⟩ rfl rfl (Nat.le_of_ble_eq_true rfl) dL_calls_352 ⟨by show _ ≤ 27; omega, by show _ ≤ 13082; omega⟩ ?_
    refine z_if_eq (tgt := 368) X dL_calls_355 (by decide) (fun q => ?_) (fun q => ?_)
    · have h := zp q h
      refine z_iconst (v := 1) X dL_calls_368 (by decide) ?_
      refine z_goto (tgt := 373) X dL_calls_369 (by decide) ?_
      obtain rfl := Option.some.inj h
      refine zz.widen (k := 27) (n := 13082) (by omega) (by omega) ?_
      exact z_iret X hr rfl (fun t hG hF _ => ⟨⟨_, (), rfl, ⟨rfl, trivial⟩, hG⟩, hF⟩) dL_calls_373
    · have h := zn q h
      refine z_aload_n X dL_calls_358 rfl rfl ?_
      refine z_iload X dL_calls_359 rfl ?_
      obtain ⟨o2, co2, h⟩ := zb2 h
      refine l_q (As := [.int (v11)]) (rest := []) (nA := 1) (mc := 0) (ms := 0) (rm := ({ frames := 10, cells := 0, slots := 0, locals := 420 } : Room)) (r0 := o2) X (fun _ h11 => cz_stateOf l X.2.2.2.2.2.2.2.2 X.2.2.2.2.2.2.1 h11 (fun _ z => nomatch z) (qo_eq co2)) n_775 n_776 n_777 n_1 n_778 nh_yX11_stateOf ⟨rfl, rfl, Nat.le_of_ble_eq_true rfl, Nat.le_of_ble_eq_true rfl⟩ rfl rfl (Nat.le_of_ble_eq_true rfl) dL_calls_361 ⟨by show _ ≤ 27; omega, by show _ ≤ 13082; omega⟩ ?_
      refine z_iconst (v := 2) X dL_calls_364 (by decide) ?_
      refine z_icmp_ne (tgt := 372) X dL_calls_365 (by decide) (fun q => ?_) (fun q => ?_)
      · have h := zp q h
        refine z_iconst (v := 1) X dL_calls_368 (by decide) ?_
        refine z_goto (tgt := 373) X dL_calls_369 (by decide) ?_
        obtain rfl := Option.some.inj h
        refine zz.widen (k := 27) (n := 13082) (by omega) (by omega) ?_
        exact z_iret X hr rfl (fun t hG hF _ => ⟨⟨_, (), rfl, ⟨rfl, trivial⟩, hG⟩, hF⟩) dL_calls_373
      · have h := zn q h
        refine z_iconst (v := 0) X dL_calls_372 (by decide) ?_
        obtain rfl := Option.some.inj h
        refine zz.widen (k := 27) (n := 13082) (by omega) (by omega) ?_
        exact z_iret X hr rfl (fun t hG hF _ => ⟨⟨_, (), rfl, ⟨rfl, trivial⟩, hG⟩, hF⟩) dL_calls_373
  · have h := zn q h
    refine z_iconst (v := 0) X dL_calls_372 (by decide) ?_
    obtain rfl := Option.some.inj h
    refine zz.widen (k := 27) (n := 13082) (by omega) (by omega) ?_
    exact z_iret X hr rfl (fun t hG hF _ => ⟨⟨_, (), rfl, ⟨rfl, trivial⟩, hG⟩, hF⟩) dL_calls_373
def fl_calls_241 (σ : GS) (v3 : Int32) (v7 : Int32) (v8 : Int32) (v9 : Int32) (s0 : Int32) : Option (GS × Int32) := (ak_join σ.1 (v7) (v8) (((v3 / 4) - (v3 / 4) / 2 * 2))).bind fun o1 => (some ((o1.1, σ.2) : GS)).bind fun σ2 => (some (o1.2)).bind fun x3 => (if 0 ≤ x3 then (aq_cellOf σ2.1 (v7)).bind fun o4 => (fl_joins σ2 (v7) (v8) (o4)).bind fun o5 => (if s0 = 0 then (if x3 = ((o5.2 2 (2).toNatClampNeg) - 1) then (aq_parties o5.1 (v8)).bind fun o6 => (aq_stateOf o5.1 (x3)).bind fun o7 => (if o7 = 0 then fl_calls_345 o5 x3 o6 v9 1
  else fl_calls_345 o5 x3 o6 v9 0)
  else some (o5, 0))
  else some (o5, 0))
  else (if x3 = (-108) then (aq_parties σ2.1 (v8)).bind fun o8 => (if o8 = v9 then some (σ2, 1)
  else some (σ2, 0))
  else some (σ2, 0)))
set_option maxRecDepth 100000 in
set_option maxHeartbeats 4000000 in
theorem bl_calls_241 {p : Program} {l : Launch} {e : Env} {s : State} {m : MethodId} {args : Array Value} {below : List Frame} {meth : Method} {c : Code} {D : va_G} {dA : Nat → ClassId} {A : Nat → Prop} {ar : Nat → Nat} {ob b Ls : Nat} {sc : Nat → Int32} {o : GS × Int32} (X : zc p l s m args meth c cL_calls RL D dA A) (Y : zY s A b Ls sc) (hml : c.maxLocals = 13) (hr : meth.sig.returnType = (some .boolean)) {cells slots : Nat} (hcs : cells + (13) ≤ 27 ∧ slots + (5789) ≤ 13082) {σ : GS} {v3 : Int32} {v7 : Int32} {v8 : Int32} {v9 : Int32} {s0 : Int32} (h : fl_calls_241 σ v3 v7 v8 v9 s0 = some o) : zz p l e ({ frames := 16, cells := 27, slots := 13082, locals := 672 } : Room) s m args below meth c A (gw D dA A σ ob ar) cells slots (MQ below (va_Qi (fun r (_ : Unit) => r = o.2 ∧ True) (fun _ t => gw D dA A o.1 ob ar t.heap) A) args s (27) (13082) A) 241 [(0, .ref ob), (3, .int (v3)), (4, .ref (ar 0)), (5, .ref (ar 1)), (6, .ref (ar 2)), (7, .int (v7)), (8, .int (v8)), (9, .int (v9))] [] [.int (s0)] := by
  obtain ⟨hcs1, hcs2⟩ := hcs
  unfold fl_calls_241 at h
  refine z_istore (lo' := [(10, .int (s0)), (0, .ref ob), (3, .int (v3)), (4, .ref (ar 0)), (5, .ref (ar 1)), (6, .ref (ar 2)), (7, .int (v7)), (8, .int (v8)), (9, .int (v9))]) X dL_calls_241 (by rw [hml]; decide) rfl rfl ?_
  refine z_aload_n X dL_calls_243 rfl rfl ?_
  refine z_iconst (v := 1) X dL_calls_244 (by decide) ?_
  refine z_iload X dL_calls_245 rfl ?_
  refine z_iload X dL_calls_247 rfl ?_
  refine z_iload_n X dL_calls_249 rfl rfl ?_
  refine z_iconst (v := 4) X dL_calls_250 (by decide) ?_
  refine z_idiv X dL_calls_251 (by decide) ?_
  refine z_iconst (v := 2) X dL_calls_252 (by decide) ?_
  refine z_irem X dL_calls_253 (by decide) ?_
  obtain ⟨o1, co1, h⟩ := zb2 h
  obtain ⟨σ2, eσ2, h⟩ := zb h
  refine z_callWi (As := [.ref ob, .int (1), .int (v7), .int (v8), .int (((v3 / 4) - (v3 / 4) / 2 * 2))]) (rest := []) (nA := 5) (mc := 13) (ms := 5789) (rm := ({ frames := 15, cells := 13, slots := 5789, locals := 630 } : Room)) (S := Unit) (post := fun r _ => r = o1.2 ∧ True) (G1 := fun _ => gw D dA A (o1.1, σ.2) ob ar) X Y.1 (la_join l X.2.2.2.2.2.2.2.2 X.2.2.2.2.2.2.1 co1) n_390 n_391 n_0 n_392 nh_yL_asks ⟨rfl, rfl, Nat.le_of_ble_eq_true rfl, Nat.le_of_ble_eq_true rfl⟩ rfl rfl (Nat.le_of_ble_eq_true rfl) dL_calls_254 ⟨by show _ ≤ 27; omega, by show _ ≤ 13082; omega⟩ (fun r9 _ hr9 => ?_)
  obtain ⟨rfl, -⟩ := hr9
  rw [eσ2]
  obtain ⟨x3, ex3, h⟩ := zb h
  rw [ex3]
  refine z_istore (lo' := [(11, .int (x3)), (10, .int (s0)), (0, .ref ob), (3, .int (v3)), (4, .ref (ar 0)), (5, .ref (ar 1)), (6, .ref (ar 2)), (7, .int (v7)), (8, .int (v8)), (9, .int (v9))]) X dL_calls_257 (by rw [hml]; decide) rfl rfl ?_
  refine z_iload X dL_calls_259 rfl ?_
  refine z_if_ge (tgt := 288) X dL_calls_261 (by decide) (fun q => ?_) (fun q => ?_)
  · have h := zp q h
    refine z_aload X dL_calls_288 rfl ?_
    refine z_aload X dL_calls_290 rfl ?_
    refine z_aload X dL_calls_292 rfl ?_
    refine z_iload X dL_calls_294 rfl ?_
    refine z_iload X dL_calls_296 rfl ?_
    refine z_aload_n X dL_calls_298 rfl rfl ?_
    refine z_iload X dL_calls_299 rfl ?_
    obtain ⟨o4, co4, h⟩ := zb2 h
    refine l_q (As := [.int (v7)]) (rest := [.int (v8), .int (v7), .ref (ar 2), .ref (ar 1), .ref (ar 0)]) (nA := 1) (mc := 0) (ms := 0) (rm := ({ frames := 7, cells := 0, slots := 0, locals := 294 } : Room)) (r0 := o4) X (fun _ h11 => cz_cellOf l X.2.2.2.2.2.2.2.2 X.2.2.2.2.2.2.1 h11 (fun _ z => nomatch z) (qo_eq co4)) n_761 n_762 n_763 n_1 n_764 nh_yX11_cellOf ⟨rfl, rfl, Nat.le_of_ble_eq_true rfl, Nat.le_of_ble_eq_true rfl⟩ rfl rfl (Nat.le_of_ble_eq_true rfl) dL_calls_301 ⟨by show _ ≤ 27; omega, by show _ ≤ 13082; omega⟩ ?_
    obtain ⟨o5, co5, h⟩ := zb2 h
    refine z_lSv (As := [.ref (ar 0), .ref (ar 1), .ref (ar 2), .int (v7), .int (v8), .int (o4)]) (rest := []) (nA := 6) (mc := 0) (ms := 0) (pu := fun (_ : Unit) => True) (G1 := fun _ => gw D dA A o5 ob ar) X Y (ll_joins l X.2.2.2.2.2.2.2.2 X.2.2.2.2.2.2.1 Y.2.2.2 co5) n_765 n_766 n_0 n_767 nh_yL_joins ⟨rfl, rfl, Nat.le_of_ble_eq_true rfl, Nat.le_of_ble_eq_true rfl⟩ rfl rfl (Nat.le_of_ble_eq_true rfl) dL_calls_304 ⟨by show _ ≤ 27; omega, by show _ ≤ 13082; omega⟩ (fun _ _ => ?_)
    refine z_iload X dL_calls_307 rfl ?_
    refine z_if_ne (tgt := 372) X dL_calls_309 (by decide) (fun q => ?_) (fun q => ?_)
    · have h := zp q h
      refine z_iload X dL_calls_312 rfl ?_
      refine z_aload X dL_calls_314 rfl ?_
      refine z_iconst (v := 2) X dL_calls_316 (by decide) ?_
      refine l_ald X 2 rfl (by decide) dL_calls_317 ?_
      refine z_iconst (v := 1) X dL_calls_318 (by decide) ?_
      refine z_isub X dL_calls_319 ?_
      refine z_icmp_ne (tgt := 372) X dL_calls_320 (by decide) (fun q => ?_) (fun q => ?_)
      · have h := zp q h
        refine z_aload_n X dL_calls_323 rfl rfl ?_
        refine z_iload X dL_calls_324 rfl ?_
        obtain ⟨o6, co6, h⟩ := zb2 h
        refine l_q (As := [.int (v8)]) (rest := []) (nA := 1) (mc := 0) (ms := 0) (rm := ({ frames := 10, cells := 0, slots := 0, locals := 420 } : Room)) (r0 := o6) X (fun _ h11 => cz_parties l X.2.2.2.2.2.2.2.2 X.2.2.2.2.2.2.1 h11 (fun _ z => nomatch z) (qo_eq co6)) n_771 n_772 n_773 n_1 n_774 nh_yX11_parties ⟨rfl, rfl, Nat.le_of_ble_eq_true rfl, Nat.le_of_ble_eq_true rfl⟩ rfl rfl (Nat.le_of_ble_eq_true rfl) dL_calls_326 ⟨by show _ ≤ 27; omega, by show _ ≤ 13082; omega⟩ ?_
        refine z_iload X dL_calls_329 rfl ?_
        refine z_aload_n X dL_calls_331 rfl rfl ?_
        refine z_iload X dL_calls_332 rfl ?_
        obtain ⟨o7, co7, h⟩ := zb2 h
        refine l_q (As := [.int (x3)]) (rest := [.int (v9), .int (o6)]) (nA := 1) (mc := 0) (ms := 0) (rm := ({ frames := 10, cells := 0, slots := 0, locals := 420 } : Room)) (r0 := o7) X (fun _ h11 => cz_stateOf l X.2.2.2.2.2.2.2.2 X.2.2.2.2.2.2.1 h11 (fun _ z => nomatch z) (qo_eq co7)) n_775 n_776 n_777 n_1 n_778 nh_yX11_stateOf ⟨rfl, rfl, Nat.le_of_ble_eq_true rfl, Nat.le_of_ble_eq_true rfl⟩ rfl rfl (Nat.le_of_ble_eq_true rfl) dL_calls_334 ⟨by show _ ≤ 27; omega, by show _ ≤ 13082; omega⟩ ?_
        refine z_if_ne (tgt := 344) X dL_calls_337 (by decide) (fun q => ?_) (fun q => ?_)
        · have h := zp q h
          refine z_iconst (v := 1) X dL_calls_340 (by decide) ?_
          refine z_goto (tgt := 345) X dL_calls_341 (by decide) ?_
          refine zz.pick (lo' := [(0, .ref ob), (11, .int (x3))]) [0, 11] rfl ?_
          exact bl_calls_345 X Y hml hr ⟨by omega, by omega⟩ h
        · have h := zn q h
          refine z_iconst (v := 0) X dL_calls_344 (by decide) ?_
          refine zz.pick (lo' := [(0, .ref ob), (11, .int (x3))]) [0, 11] rfl ?_
          exact bl_calls_345 X Y hml hr ⟨by omega, by omega⟩ h
      · have h := zn q h
        refine z_iconst (v := 0) X dL_calls_372 (by decide) ?_
        obtain rfl := Option.some.inj h
        refine zz.widen (k := 27) (n := 13082) (by omega) (by omega) ?_
        exact z_iret X hr rfl (fun t hG hF _ => ⟨⟨_, (), rfl, ⟨rfl, trivial⟩, hG⟩, hF⟩) dL_calls_373
    · have h := zn q h
      refine z_iconst (v := 0) X dL_calls_372 (by decide) ?_
      obtain rfl := Option.some.inj h
      refine zz.widen (k := 27) (n := 13082) (by omega) (by omega) ?_
      exact z_iret X hr rfl (fun t hG hF _ => ⟨⟨_, (), rfl, ⟨rfl, trivial⟩, hG⟩, hF⟩) dL_calls_373
  · have h := zn q h
    refine z_iload X dL_calls_264 rfl ?_
    refine z_bipush (v := (-108)) X dL_calls_266 (by decide) ?_
    refine z_icmp_ne (tgt := 286) X dL_calls_268 (by decide) (fun q => ?_) (fun q => ?_)
    · have h := zp q h
      refine z_aload_n X dL_calls_271 rfl rfl ?_
      refine z_iload X dL_calls_272 rfl ?_
      obtain ⟨o8, co8, h⟩ := zb2 h
      refine l_q (As := [.int (v8)]) (rest := []) (nA := 1) (mc := 0) (ms := 0) (rm := ({ frames := 10, cells := 0, slots := 0, locals := 420 } : Room)) (r0 := o8) X (fun _ h11 => cz_parties l X.2.2.2.2.2.2.2.2 X.2.2.2.2.2.2.1 h11 (fun _ z => nomatch z) (qo_eq co8)) n_771 n_772 n_773 n_1 n_774 nh_yX11_parties ⟨rfl, rfl, Nat.le_of_ble_eq_true rfl, Nat.le_of_ble_eq_true rfl⟩ rfl rfl (Nat.le_of_ble_eq_true rfl) dL_calls_274 ⟨by show _ ≤ 27; omega, by show _ ≤ 13082; omega⟩ ?_
      refine z_iload X dL_calls_277 rfl ?_
      refine z_icmp_ne (tgt := 286) X dL_calls_279 (by decide) (fun q => ?_) (fun q => ?_)
      · have h := zp q h
        refine z_iconst (v := 1) X dL_calls_282 (by decide) ?_
        refine z_goto (tgt := 287) X dL_calls_283 (by decide) ?_
        obtain rfl := Option.some.inj h
        refine zz.widen (k := 27) (n := 13082) (by omega) (by omega) ?_
        exact z_iret X hr rfl (fun t hG hF _ => ⟨⟨_, (), rfl, ⟨rfl, trivial⟩, hG⟩, hF⟩) dL_calls_287
      · have h := zn q h
        refine z_iconst (v := 0) X dL_calls_286 (by decide) ?_
        obtain rfl := Option.some.inj h
        refine zz.widen (k := 27) (n := 13082) (by omega) (by omega) ?_
        exact z_iret X hr rfl (fun t hG hF _ => ⟨⟨_, (), rfl, ⟨rfl, trivial⟩, hG⟩, hF⟩) dL_calls_287
    · have h := zn q h
      refine z_iconst (v := 0) X dL_calls_286 (by decide) ?_
      obtain rfl := Option.some.inj h
      refine zz.widen (k := 27) (n := 13082) (by omega) (by omega) ?_
      exact z_iret X hr rfl (fun t hG hF _ => ⟨⟨_, (), rfl, ⟨rfl, trivial⟩, hG⟩, hF⟩) dL_calls_287
def fl_calls_236 (σ : GS) (v3 : Int32) (v7 : Int32) (v8 : Int32) (v9 : Int32) : Option (GS × Int32) := fl_calls_241 σ v3 v7 v8 v9 1
set_option maxRecDepth 100000 in
set_option maxHeartbeats 4000000 in
theorem bl_calls_236 {p : Program} {l : Launch} {e : Env} {s : State} {m : MethodId} {args : Array Value} {below : List Frame} {meth : Method} {c : Code} {D : va_G} {dA : Nat → ClassId} {A : Nat → Prop} {ar : Nat → Nat} {ob b Ls : Nat} {sc : Nat → Int32} {o : GS × Int32} (X : zc p l s m args meth c cL_calls RL D dA A) (Y : zY s A b Ls sc) (hml : c.maxLocals = 13) (hr : meth.sig.returnType = (some .boolean)) {cells slots : Nat} (hcs : cells + (13) ≤ 27 ∧ slots + (5789) ≤ 13082) {σ : GS} {v3 : Int32} {v7 : Int32} {v8 : Int32} {v9 : Int32} (h : fl_calls_236 σ v3 v7 v8 v9 = some o) : zz p l e ({ frames := 16, cells := 27, slots := 13082, locals := 672 } : Room) s m args below meth c A (gw D dA A σ ob ar) cells slots (MQ below (va_Qi (fun r (_ : Unit) => r = o.2 ∧ True) (fun _ t => gw D dA A o.1 ob ar t.heap) A) args s (27) (13082) A) 236 [(0, .ref ob), (3, .int (v3)), (4, .ref (ar 0)), (5, .ref (ar 1)), (6, .ref (ar 2)), (7, .int (v7)), (8, .int (v8)), (9, .int (v9))] [] [] := by
  obtain ⟨hcs1, hcs2⟩ := hcs
  unfold fl_calls_236 at h
  refine z_iconst (v := 1) X dL_calls_236 (by decide) ?_
  refine z_goto (tgt := 241) X dL_calls_237 (by decide) ?_
  refine zz.pick (lo' := [(0, .ref ob), (3, .int (v3)), (4, .ref (ar 0)), (5, .ref (ar 1)), (6, .ref (ar 2)), (7, .int (v7)), (8, .int (v8)), (9, .int (v9))]) [0, 3, 4, 5, 6, 7, 8, 9] rfl ?_
  exact bl_calls_241 X Y hml hr ⟨by omega, by omega⟩ h
def fl_calls_204 (σ : GS) (v3 : Int32) (v7 : Int32) (s0 : Int32) (s1 : Int32) (s2 : Int32) : Option (GS × Int32) := if s2 = 0 then none else (some ((s0 - (s1 - s1 / s2 * s2)))).bind fun x2 => (aq_parties σ.1 (x2)).bind fun o3 => (aq_legOf σ.1 (v7)).bind fun o4 => (if 0 ≤ o4 then fl_calls_236 σ v3 v7 x2 o3
  else (if o3 = 0 then fl_calls_236 σ v3 v7 x2 o3
  else (if o3 = 4 then fl_calls_236 σ v3 v7 x2 o3
  else fl_calls_241 σ v3 v7 x2 o3 0)))
set_option maxRecDepth 100000 in
set_option maxHeartbeats 4000000 in
theorem bl_calls_204 {p : Program} {l : Launch} {e : Env} {s : State} {m : MethodId} {args : Array Value} {below : List Frame} {meth : Method} {c : Code} {D : va_G} {dA : Nat → ClassId} {A : Nat → Prop} {ar : Nat → Nat} {ob b Ls : Nat} {sc : Nat → Int32} {o : GS × Int32} (X : zc p l s m args meth c cL_calls RL D dA A) (Y : zY s A b Ls sc) (hml : c.maxLocals = 13) (hr : meth.sig.returnType = (some .boolean)) {cells slots : Nat} (hcs : cells + (13) ≤ 27 ∧ slots + (5789) ≤ 13082) {σ : GS} {v3 : Int32} {v7 : Int32} {s0 : Int32} {s1 : Int32} {s2 : Int32} (h : fl_calls_204 σ v3 v7 s0 s1 s2 = some o) : zz p l e ({ frames := 16, cells := 27, slots := 13082, locals := 672 } : Room) s m args below meth c A (gw D dA A σ ob ar) cells slots (MQ below (va_Qi (fun r (_ : Unit) => r = o.2 ∧ True) (fun _ t => gw D dA A o.1 ob ar t.heap) A) args s (27) (13082) A) 204 [(0, .ref ob), (3, .int (v3)), (4, .ref (ar 0)), (5, .ref (ar 1)), (6, .ref (ar 2)), (7, .int (v7))] [] [.int (s2), .int (s1), .int (s0)] := by
  obtain ⟨hcs1, hcs2⟩ := hcs
  unfold fl_calls_204 at h
  obtain ⟨q1, h⟩ := zg h
  refine z_irem X dL_calls_204 q1 ?_
  refine z_isub X dL_calls_205 ?_
  obtain ⟨x2, ex2, h⟩ := zb h
  rw [ex2]
  refine z_istore (lo' := [(8, .int (x2)), (0, .ref ob), (3, .int (v3)), (4, .ref (ar 0)), (5, .ref (ar 1)), (6, .ref (ar 2)), (7, .int (v7))]) X dL_calls_206 (by rw [hml]; decide) rfl rfl ?_
  refine z_aload_n X dL_calls_208 rfl rfl ?_
  refine z_iload X dL_calls_209 rfl ?_
  obtain ⟨o3, co3, h⟩ := zb2 h
  refine l_q (As := [.int (x2)]) (rest := []) (nA := 1) (mc := 0) (ms := 0) (rm := ({ frames := 10, cells := 0, slots := 0, locals := 420 } : Room)) (r0 := o3) X (fun _ h11 => cz_parties l X.2.2.2.2.2.2.2.2 X.2.2.2.2.2.2.1 h11 (fun _ z => nomatch z) (qo_eq co3)) n_771 n_772 n_773 n_1 n_774 nh_yX11_parties ⟨rfl, rfl, Nat.le_of_ble_eq_true rfl, Nat.le_of_ble_eq_true rfl⟩ rfl rfl (Nat.le_of_ble_eq_true rfl) dL_calls_211 ⟨by show _ ≤ 27; omega, by show _ ≤ 13082; omega⟩ ?_
  refine z_istore (lo' := [(9, .int (o3)), (8, .int (x2)), (0, .ref ob), (3, .int (v3)), (4, .ref (ar 0)), (5, .ref (ar 1)), (6, .ref (ar 2)), (7, .int (v7))]) X dL_calls_214 (by rw [hml]; decide) rfl rfl ?_
  refine z_aload_n X dL_calls_216 rfl rfl ?_
  refine z_iload X dL_calls_217 rfl ?_
  obtain ⟨o4, co4, h⟩ := zb2 h
  refine l_q (As := [.int (v7)]) (rest := []) (nA := 1) (mc := 0) (ms := 0) (rm := ({ frames := 7, cells := 0, slots := 0, locals := 294 } : Room)) (r0 := o4) X (fun _ h11 => cz_legOf l X.2.2.2.2.2.2.2.2 X.2.2.2.2.2.2.1 h11 (fun _ z => nomatch z) (qo_eq co4)) n_313 n_314 n_315 n_1 n_316 nh_yX11_legOf ⟨rfl, rfl, Nat.le_of_ble_eq_true rfl, Nat.le_of_ble_eq_true rfl⟩ rfl rfl (Nat.le_of_ble_eq_true rfl) dL_calls_219 ⟨by show _ ≤ 27; omega, by show _ ≤ 13082; omega⟩ ?_
  refine z_if_ge (tgt := 236) X dL_calls_222 (by decide) (fun q => ?_) (fun q => ?_)
  · have h := zp q h
    refine zz.pick (lo' := [(0, .ref ob), (3, .int (v3)), (4, .ref (ar 0)), (5, .ref (ar 1)), (6, .ref (ar 2)), (7, .int (v7)), (8, .int (x2)), (9, .int (o3))]) [0, 3, 4, 5, 6, 7, 8, 9] rfl ?_
    exact bl_calls_236 X Y hml hr ⟨by omega, by omega⟩ h
  · have h := zn q h
    refine z_iload X dL_calls_225 rfl ?_
    refine z_if_eq (tgt := 236) X dL_calls_227 (by decide) (fun q => ?_) (fun q => ?_)
    · have h := zp q h
      refine zz.pick (lo' := [(0, .ref ob), (3, .int (v3)), (4, .ref (ar 0)), (5, .ref (ar 1)), (6, .ref (ar 2)), (7, .int (v7)), (8, .int (x2)), (9, .int (o3))]) [0, 3, 4, 5, 6, 7, 8, 9] rfl ?_
      exact bl_calls_236 X Y hml hr ⟨by omega, by omega⟩ h
    · have h := zn q h
      refine z_iload X dL_calls_230 rfl ?_
      refine z_iconst (v := 4) X dL_calls_232 (by decide) ?_
      refine z_icmp_ne (tgt := 240) X dL_calls_233 (by decide) (fun q => ?_) (fun q => ?_)
      · have h := zp q h
        refine zz.pick (lo' := [(0, .ref ob), (3, .int (v3)), (4, .ref (ar 0)), (5, .ref (ar 1)), (6, .ref (ar 2)), (7, .int (v7)), (8, .int (x2)), (9, .int (o3))]) [0, 3, 4, 5, 6, 7, 8, 9] rfl ?_
        exact bl_calls_236 X Y hml hr ⟨by omega, by omega⟩ h
      · have h := zn q h
        refine z_iconst (v := 0) X dL_calls_240 (by decide) ?_
        refine zz.pick (lo' := [(0, .ref ob), (3, .int (v3)), (4, .ref (ar 0)), (5, .ref (ar 1)), (6, .ref (ar 2)), (7, .int (v7)), (8, .int (x2)), (9, .int (o3))]) [0, 3, 4, 5, 6, 7, 8, 9] rfl ?_
        exact bl_calls_241 X Y hml hr ⟨by omega, by omega⟩ h
def fl_calls_473 (σ : GS) (v7 : Int32) (v8 : Int32) (s0 : Int32) (s1 : Int32) : Option (GS × Int32) := (if s0 = s1 then (aq_stateOf σ.1 (v8)).bind fun o1 => (if o1 = 1 then (aq_legOf σ.1 (v7)).bind fun o2 => (if o2 = (-1) then some (σ, 1)
  else some (σ, 0))
  else some (σ, 0))
  else some (σ, 0))
set_option maxRecDepth 100000 in
set_option maxHeartbeats 4000000 in
theorem bl_calls_473 {p : Program} {l : Launch} {e : Env} {s : State} {m : MethodId} {args : Array Value} {below : List Frame} {meth : Method} {c : Code} {D : va_G} {dA : Nat → ClassId} {A : Nat → Prop} {ar : Nat → Nat} {ob b Ls : Nat} {sc : Nat → Int32} {o : GS × Int32} (X : zc p l s m args meth c cL_calls RL D dA A) (Y : zY s A b Ls sc) (hml : c.maxLocals = 13) (hr : meth.sig.returnType = (some .boolean)) {cells slots : Nat} (hcs : cells + (0) ≤ 27 ∧ slots + (0) ≤ 13082) {σ : GS} {v7 : Int32} {v8 : Int32} {s0 : Int32} {s1 : Int32} (h : fl_calls_473 σ v7 v8 s0 s1 = some o) : zz p l e ({ frames := 16, cells := 27, slots := 13082, locals := 672 } : Room) s m args below meth c A (gw D dA A σ ob ar) cells slots (MQ below (va_Qi (fun r (_ : Unit) => r = o.2 ∧ True) (fun _ t => gw D dA A o.1 ob ar t.heap) A) args s (27) (13082) A) 473 [(0, .ref ob), (7, .int (v7)), (8, .int (v8))] [] [.int (s1), .int (s0)] := by
  obtain ⟨hcs1, hcs2⟩ := hcs
  unfold fl_calls_473 at h
  refine z_icmp_ne (tgt := 500) X dL_calls_473 (by decide) (fun q => ?_) (fun q => ?_)
  · have h := zp q h
    refine z_aload_n X dL_calls_476 rfl rfl ?_
    refine z_iload X dL_calls_477 rfl ?_
    obtain ⟨o1, co1, h⟩ := zb2 h
    refine l_q (As := [.int (v8)]) (rest := []) (nA := 1) (mc := 0) (ms := 0) (rm := ({ frames := 10, cells := 0, slots := 0, locals := 420 } : Room)) (r0 := o1) X (fun _ h11 => cz_stateOf l X.2.2.2.2.2.2.2.2 X.2.2.2.2.2.2.1 h11 (fun _ z => nomatch z) (qo_eq co1)) n_775 n_776 n_777 n_1 n_778 nh_yX11_stateOf ⟨rfl, rfl, Nat.le_of_ble_eq_true rfl, Nat.le_of_ble_eq_true rfl⟩ rfl rfl (Nat.le_of_ble_eq_true rfl) dL_calls_479 ⟨by show _ ≤ 27; omega, by show _ ≤ 13082; omega⟩ ?_
    refine z_iconst (v := 1) X dL_calls_482 (by decide) ?_
    refine z_icmp_ne (tgt := 500) X dL_calls_483 (by decide) (fun q => ?_) (fun q => ?_)
    · have h := zp q h
      refine z_aload_n X dL_calls_486 rfl rfl ?_
      refine z_iload X dL_calls_487 rfl ?_
      obtain ⟨o2, co2, h⟩ := zb2 h
      refine l_q (As := [.int (v7)]) (rest := []) (nA := 1) (mc := 0) (ms := 0) (rm := ({ frames := 7, cells := 0, slots := 0, locals := 294 } : Room)) (r0 := o2) X (fun _ h11 => cz_legOf l X.2.2.2.2.2.2.2.2 X.2.2.2.2.2.2.1 h11 (fun _ z => nomatch z) (qo_eq co2)) n_313 n_314 n_315 n_1 n_316 nh_yX11_legOf ⟨rfl, rfl, Nat.le_of_ble_eq_true rfl, Nat.le_of_ble_eq_true rfl⟩ rfl rfl (Nat.le_of_ble_eq_true rfl) dL_calls_489 ⟨by show _ ≤ 27; omega, by show _ ≤ 13082; omega⟩ ?_
      refine z_iconst (v := (-1)) X dL_calls_492 (by decide) ?_
      refine z_icmp_ne (tgt := 500) X dL_calls_493 (by decide) (fun q => ?_) (fun q => ?_)
      · have h := zp q h
        refine z_iconst (v := 1) X dL_calls_496 (by decide) ?_
        refine z_goto (tgt := 501) X dL_calls_497 (by decide) ?_
        obtain rfl := Option.some.inj h
        refine zz.widen (k := 27) (n := 13082) (by omega) (by omega) ?_
        exact z_iret X hr rfl (fun t hG hF _ => ⟨⟨_, (), rfl, ⟨rfl, trivial⟩, hG⟩, hF⟩) dL_calls_501
      · have h := zn q h
        refine z_iconst (v := 0) X dL_calls_500 (by decide) ?_
        obtain rfl := Option.some.inj h
        refine zz.widen (k := 27) (n := 13082) (by omega) (by omega) ?_
        exact z_iret X hr rfl (fun t hG hF _ => ⟨⟨_, (), rfl, ⟨rfl, trivial⟩, hG⟩, hF⟩) dL_calls_501
    · have h := zn q h
      refine z_iconst (v := 0) X dL_calls_500 (by decide) ?_
      obtain rfl := Option.some.inj h
      refine zz.widen (k := 27) (n := 13082) (by omega) (by omega) ?_
      exact z_iret X hr rfl (fun t hG hF _ => ⟨⟨_, (), rfl, ⟨rfl, trivial⟩, hG⟩, hF⟩) dL_calls_501
  · have h := zn q h
    refine z_iconst (v := 0) X dL_calls_500 (by decide) ?_
    obtain rfl := Option.some.inj h
    refine zz.widen (k := 27) (n := 13082) (by omega) (by omega) ?_
    exact z_iret X hr rfl (fun t hG hF _ => ⟨⟨_, (), rfl, ⟨rfl, trivial⟩, hG⟩, hF⟩) dL_calls_501
def fl_calls_424 (σ : GS) (v7 : Int32) (v8 : Int32) (s0 : Int32) : Option (GS × Int32) := (ak_leave σ.1 (v7) (0) (0)).bind fun o1 => (some ((o1.1, σ.2) : GS)).bind fun σ2 => (some (o1.2)).bind fun x3 => (if 0 ≤ v8 then (if s0 = 2 then fl_calls_473 σ2 v7 v8 x3 0
  else fl_calls_473 σ2 v7 v8 x3 (s0 - 1))
  else (if x3 = (-108) then some (σ2, 1)
  else some (σ2, 0)))
set_option maxRecDepth 100000 in
set_option maxHeartbeats 4000000 in
theorem bl_calls_424 {p : Program} {l : Launch} {e : Env} {s : State} {m : MethodId} {args : Array Value} {below : List Frame} {meth : Method} {c : Code} {D : va_G} {dA : Nat → ClassId} {A : Nat → Prop} {ar : Nat → Nat} {ob b Ls : Nat} {sc : Nat → Int32} {o : GS × Int32} (X : zc p l s m args meth c cL_calls RL D dA A) (Y : zY s A b Ls sc) (hml : c.maxLocals = 13) (hr : meth.sig.returnType = (some .boolean)) {cells slots : Nat} (hcs : cells + (5) ≤ 27 ∧ slots + (1832) ≤ 13082) {σ : GS} {v7 : Int32} {v8 : Int32} {s0 : Int32} (h : fl_calls_424 σ v7 v8 s0 = some o) : zz p l e ({ frames := 16, cells := 27, slots := 13082, locals := 672 } : Room) s m args below meth c A (gw D dA A σ ob ar) cells slots (MQ below (va_Qi (fun r (_ : Unit) => r = o.2 ∧ True) (fun _ t => gw D dA A o.1 ob ar t.heap) A) args s (27) (13082) A) 424 [(0, .ref ob), (7, .int (v7)), (8, .int (v8))] [] [.int (s0)] := by
  obtain ⟨hcs1, hcs2⟩ := hcs
  unfold fl_calls_424 at h
  refine z_istore (lo' := [(10, .int (s0)), (0, .ref ob), (7, .int (v7)), (8, .int (v8))]) X dL_calls_424 (by rw [hml]; decide) rfl rfl ?_
  refine z_aload_n X dL_calls_426 rfl rfl ?_
  refine z_iconst (v := 2) X dL_calls_427 (by decide) ?_
  refine z_iload X dL_calls_428 rfl ?_
  refine z_iconst (v := 0) X dL_calls_430 (by decide) ?_
  refine z_iconst (v := 0) X dL_calls_431 (by decide) ?_
  obtain ⟨o1, co1, h⟩ := zb2 h
  obtain ⟨σ2, eσ2, h⟩ := zb h
  refine z_callWi (As := [.ref ob, .int (2), .int (v7), .int (0), .int (0)]) (rest := []) (nA := 5) (mc := 5) (ms := 1832) (rm := ({ frames := 15, cells := 5, slots := 1832, locals := 630 } : Room)) (S := Unit) (post := fun r _ => r = o1.2 ∧ True) (G1 := fun _ => gw D dA A (o1.1, σ.2) ob ar) X Y.1 (la_leave l X.2.2.2.2.2.2.2.2 X.2.2.2.2.2.2.1 co1) n_390 n_391 n_0 n_392 nh_yL_asks ⟨rfl, rfl, Nat.le_of_ble_eq_true rfl, Nat.le_of_ble_eq_true rfl⟩ rfl rfl (Nat.le_of_ble_eq_true rfl) dL_calls_432 ⟨by show _ ≤ 27; omega, by show _ ≤ 13082; omega⟩ (fun r9 _ hr9 => ?_)
  obtain ⟨rfl, -⟩ := hr9
  rw [eσ2]
  obtain ⟨x3, ex3, h⟩ := zb h
  rw [ex3]
  refine z_istore (lo' := [(11, .int (x3)), (10, .int (s0)), (0, .ref ob), (7, .int (v7)), (8, .int (v8))]) X dL_calls_435 (by rw [hml]; decide) rfl rfl ?_
  refine z_iload X dL_calls_437 rfl ?_
  refine z_if_ge (tgt := 457) X dL_calls_439 (by decide) (fun q => ?_) (fun q => ?_)
  · have h := zp q h
    refine z_iload X dL_calls_457 rfl ?_
    refine z_iload X dL_calls_459 rfl ?_
    refine z_iconst (v := 2) X dL_calls_461 (by decide) ?_
    refine z_icmp_ne (tgt := 469) X dL_calls_462 (by decide) (fun q => ?_) (fun q => ?_)
    · have h := zp q h
      refine z_iconst (v := 0) X dL_calls_465 (by decide) ?_
      refine z_goto (tgt := 473) X dL_calls_466 (by decide) ?_
      refine zz.pick (lo' := [(0, .ref ob), (7, .int (v7)), (8, .int (v8))]) [0, 7, 8] rfl ?_
      exact bl_calls_473 X Y hml hr ⟨by omega, by omega⟩ h
    · have h := zn q h
      refine z_iload X dL_calls_469 rfl ?_
      refine z_iconst (v := 1) X dL_calls_471 (by decide) ?_
      refine z_isub X dL_calls_472 ?_
      refine zz.pick (lo' := [(0, .ref ob), (7, .int (v7)), (8, .int (v8))]) [0, 7, 8] rfl ?_
      exact bl_calls_473 X Y hml hr ⟨by omega, by omega⟩ h
  · have h := zn q h
    refine z_iload X dL_calls_442 rfl ?_
    refine z_bipush (v := (-108)) X dL_calls_444 (by decide) ?_
    refine z_icmp_ne (tgt := 453) X dL_calls_446 (by decide) (fun q => ?_) (fun q => ?_)
    · have h := zp q h
      refine z_iconst (v := 1) X dL_calls_449 (by decide) ?_
      refine z_goto (tgt := 501) X dL_calls_450 (by decide) ?_
      obtain rfl := Option.some.inj h
      refine zz.widen (k := 27) (n := 13082) (by omega) (by omega) ?_
      exact z_iret X hr rfl (fun t hG hF _ => ⟨⟨_, (), rfl, ⟨rfl, trivial⟩, hG⟩, hF⟩) dL_calls_501
    · have h := zn q h
      refine z_iconst (v := 0) X dL_calls_453 (by decide) ?_
      refine z_goto (tgt := 501) X dL_calls_454 (by decide) ?_
      obtain rfl := Option.some.inj h
      refine zz.widen (k := 27) (n := 13082) (by omega) (by omega) ?_
      exact z_iret X hr rfl (fun t hG hF _ => ⟨⟨_, (), rfl, ⟨rfl, trivial⟩, hG⟩, hF⟩) dL_calls_501
def fl_calls_407 (σ : GS) (v7 : Int32) (v8 : Int32) (s0 : Int32) : Option (GS × Int32) := (if 0 ≤ v8 then (aq_parties σ.1 (s0)).bind fun o1 => fl_calls_424 σ v7 v8 o1
  else fl_calls_424 σ v7 v8 0)
set_option maxRecDepth 100000 in
set_option maxHeartbeats 4000000 in
theorem bl_calls_407 {p : Program} {l : Launch} {e : Env} {s : State} {m : MethodId} {args : Array Value} {below : List Frame} {meth : Method} {c : Code} {D : va_G} {dA : Nat → ClassId} {A : Nat → Prop} {ar : Nat → Nat} {ob b Ls : Nat} {sc : Nat → Int32} {o : GS × Int32} (X : zc p l s m args meth c cL_calls RL D dA A) (Y : zY s A b Ls sc) (hml : c.maxLocals = 13) (hr : meth.sig.returnType = (some .boolean)) {cells slots : Nat} (hcs : cells + (5) ≤ 27 ∧ slots + (1832) ≤ 13082) {σ : GS} {v7 : Int32} {v8 : Int32} {s0 : Int32} (h : fl_calls_407 σ v7 v8 s0 = some o) : zz p l e ({ frames := 16, cells := 27, slots := 13082, locals := 672 } : Room) s m args below meth c A (gw D dA A σ ob ar) cells slots (MQ below (va_Qi (fun r (_ : Unit) => r = o.2 ∧ True) (fun _ t => gw D dA A o.1 ob ar t.heap) A) args s (27) (13082) A) 407 [(0, .ref ob), (7, .int (v7)), (8, .int (v8))] [] [.int (s0)] := by
  obtain ⟨hcs1, hcs2⟩ := hcs
  unfold fl_calls_407 at h
  refine z_istore (lo' := [(9, .int (s0)), (0, .ref ob), (7, .int (v7)), (8, .int (v8))]) X dL_calls_407 (by rw [hml]; decide) rfl rfl ?_
  refine z_iload X dL_calls_409 rfl ?_
  refine z_if_ge (tgt := 418) X dL_calls_411 (by decide) (fun q => ?_) (fun q => ?_)
  · have h := zp q h
    refine z_aload_n X dL_calls_418 rfl rfl ?_
    refine z_iload X dL_calls_419 rfl ?_
    obtain ⟨o1, co1, h⟩ := zb2 h
    refine l_q (As := [.int (s0)]) (rest := []) (nA := 1) (mc := 0) (ms := 0) (rm := ({ frames := 10, cells := 0, slots := 0, locals := 420 } : Room)) (r0 := o1) X (fun _ h11 => cz_parties l X.2.2.2.2.2.2.2.2 X.2.2.2.2.2.2.1 h11 (fun _ z => nomatch z) (qo_eq co1)) n_771 n_772 n_773 n_1 n_774 nh_yX11_parties ⟨rfl, rfl, Nat.le_of_ble_eq_true rfl, Nat.le_of_ble_eq_true rfl⟩ rfl rfl (Nat.le_of_ble_eq_true rfl) dL_calls_421 ⟨by show _ ≤ 27; omega, by show _ ≤ 13082; omega⟩ ?_
    refine zz.pick (lo' := [(0, .ref ob), (7, .int (v7)), (8, .int (v8))]) [0, 7, 8] rfl ?_
    exact bl_calls_424 X Y hml hr ⟨by omega, by omega⟩ h
  · have h := zn q h
    refine z_iconst (v := 0) X dL_calls_414 (by decide) ?_
    refine z_goto (tgt := 424) X dL_calls_415 (by decide) ?_
    refine zz.pick (lo' := [(0, .ref ob), (7, .int (v7)), (8, .int (v8))]) [0, 7, 8] rfl ?_
    exact bl_calls_424 X Y hml hr ⟨by omega, by omega⟩ h
def fl_calls_580 (σ : GS) (v7 : Int32) (v8 : Int32) (v10 : Int32) (s0 : Int32) (s1 : Int32) : Option (GS × Int32) := (if s0 = s1 then (aq_cellOf σ.1 (v7)).bind fun o1 => (if o1 = v10 then (aq_legOf σ.1 (v7)).bind fun o2 => (if o2 = v8 then some (σ, 1)
  else some (σ, 0))
  else some (σ, 0))
  else some (σ, 0))
set_option maxRecDepth 100000 in
set_option maxHeartbeats 4000000 in
theorem bl_calls_580 {p : Program} {l : Launch} {e : Env} {s : State} {m : MethodId} {args : Array Value} {below : List Frame} {meth : Method} {c : Code} {D : va_G} {dA : Nat → ClassId} {A : Nat → Prop} {ar : Nat → Nat} {ob b Ls : Nat} {sc : Nat → Int32} {o : GS × Int32} (X : zc p l s m args meth c cL_calls RL D dA A) (Y : zY s A b Ls sc) (hml : c.maxLocals = 13) (hr : meth.sig.returnType = (some .boolean)) {cells slots : Nat} (hcs : cells + (0) ≤ 27 ∧ slots + (0) ≤ 13082) {σ : GS} {v7 : Int32} {v8 : Int32} {v10 : Int32} {s0 : Int32} {s1 : Int32} (h : fl_calls_580 σ v7 v8 v10 s0 s1 = some o) : zz p l e ({ frames := 16, cells := 27, slots := 13082, locals := 672 } : Room) s m args below meth c A (gw D dA A σ ob ar) cells slots (MQ below (va_Qi (fun r (_ : Unit) => r = o.2 ∧ True) (fun _ t => gw D dA A o.1 ob ar t.heap) A) args s (27) (13082) A) 580 [(0, .ref ob), (7, .int (v7)), (8, .int (v8)), (10, .int (v10))] [] [.int (s1), .int (s0)] := by
  obtain ⟨hcs1, hcs2⟩ := hcs
  unfold fl_calls_580 at h
  refine z_icmp_ne (tgt := 609) X dL_calls_580 (by decide) (fun q => ?_) (fun q => ?_)
  · have h := zp q h
    refine z_aload_n X dL_calls_583 rfl rfl ?_
    refine z_iload X dL_calls_584 rfl ?_
    obtain ⟨o1, co1, h⟩ := zb2 h
    refine l_q (As := [.int (v7)]) (rest := []) (nA := 1) (mc := 0) (ms := 0) (rm := ({ frames := 7, cells := 0, slots := 0, locals := 294 } : Room)) (r0 := o1) X (fun _ h11 => cz_cellOf l X.2.2.2.2.2.2.2.2 X.2.2.2.2.2.2.1 h11 (fun _ z => nomatch z) (qo_eq co1)) n_761 n_762 n_763 n_1 n_764 nh_yX11_cellOf ⟨rfl, rfl, Nat.le_of_ble_eq_true rfl, Nat.le_of_ble_eq_true rfl⟩ rfl rfl (Nat.le_of_ble_eq_true rfl) dL_calls_586 ⟨by show _ ≤ 27; omega, by show _ ≤ 13082; omega⟩ ?_
    refine z_iload X dL_calls_589 rfl ?_
    refine z_icmp_ne (tgt := 609) X dL_calls_591 (by decide) (fun q => ?_) (fun q => ?_)
    · have h := zp q h
      refine z_aload_n X dL_calls_594 rfl rfl ?_
      refine z_iload X dL_calls_595 rfl ?_
      obtain ⟨o2, co2, h⟩ := zb2 h
      refine l_q (As := [.int (v7)]) (rest := []) (nA := 1) (mc := 0) (ms := 0) (rm := ({ frames := 7, cells := 0, slots := 0, locals := 294 } : Room)) (r0 := o2) X (fun _ h11 => cz_legOf l X.2.2.2.2.2.2.2.2 X.2.2.2.2.2.2.1 h11 (fun _ z => nomatch z) (qo_eq co2)) n_313 n_314 n_315 n_1 n_316 nh_yX11_legOf ⟨rfl, rfl, Nat.le_of_ble_eq_true rfl, Nat.le_of_ble_eq_true rfl⟩ rfl rfl (Nat.le_of_ble_eq_true rfl) dL_calls_597 ⟨by show _ ≤ 27; omega, by show _ ≤ 13082; omega⟩ ?_
      refine z_iload X dL_calls_600 rfl ?_
      refine z_icmp_ne (tgt := 609) X dL_calls_602 (by decide) (fun q => ?_) (fun q => ?_)
      · have h := zp q h
        refine z_iconst (v := 1) X dL_calls_605 (by decide) ?_
        refine z_goto (tgt := 610) X dL_calls_606 (by decide) ?_
        obtain rfl := Option.some.inj h
        refine zz.widen (k := 27) (n := 13082) (by omega) (by omega) ?_
        exact z_iret X hr rfl (fun t hG hF _ => ⟨⟨_, (), rfl, ⟨rfl, trivial⟩, hG⟩, hF⟩) dL_calls_610
      · have h := zn q h
        refine z_iconst (v := 0) X dL_calls_609 (by decide) ?_
        obtain rfl := Option.some.inj h
        refine zz.widen (k := 27) (n := 13082) (by omega) (by omega) ?_
        exact z_iret X hr rfl (fun t hG hF _ => ⟨⟨_, (), rfl, ⟨rfl, trivial⟩, hG⟩, hF⟩) dL_calls_610
    · have h := zn q h
      refine z_iconst (v := 0) X dL_calls_609 (by decide) ?_
      obtain rfl := Option.some.inj h
      refine zz.widen (k := 27) (n := 13082) (by omega) (by omega) ?_
      exact z_iret X hr rfl (fun t hG hF _ => ⟨⟨_, (), rfl, ⟨rfl, trivial⟩, hG⟩, hF⟩) dL_calls_610
  · have h := zn q h
    refine z_iconst (v := 0) X dL_calls_609 (by decide) ?_
    obtain rfl := Option.some.inj h
    refine zz.widen (k := 27) (n := 13082) (by omega) (by omega) ?_
    exact z_iret X hr rfl (fun t hG hF _ => ⟨⟨_, (), rfl, ⟨rfl, trivial⟩, hG⟩, hF⟩) dL_calls_610
def fl_calls_568 (σ : GS) (v7 : Int32) (v8 : Int32) (v10 : Int32) (v11 : Int32) : Option (GS × Int32) := (if v8 < 0 then fl_calls_580 σ v7 v8 v10 v11 0
  else fl_calls_580 σ v7 v8 v10 v11 1)
set_option maxRecDepth 100000 in
set_option maxHeartbeats 4000000 in
theorem bl_calls_568 {p : Program} {l : Launch} {e : Env} {s : State} {m : MethodId} {args : Array Value} {below : List Frame} {meth : Method} {c : Code} {D : va_G} {dA : Nat → ClassId} {A : Nat → Prop} {ar : Nat → Nat} {ob b Ls : Nat} {sc : Nat → Int32} {o : GS × Int32} (X : zc p l s m args meth c cL_calls RL D dA A) (Y : zY s A b Ls sc) (hml : c.maxLocals = 13) (hr : meth.sig.returnType = (some .boolean)) {cells slots : Nat} (hcs : cells + (0) ≤ 27 ∧ slots + (0) ≤ 13082) {σ : GS} {v7 : Int32} {v8 : Int32} {v10 : Int32} {v11 : Int32} (h : fl_calls_568 σ v7 v8 v10 v11 = some o) : zz p l e ({ frames := 16, cells := 27, slots := 13082, locals := 672 } : Room) s m args below meth c A (gw D dA A σ ob ar) cells slots (MQ below (va_Qi (fun r (_ : Unit) => r = o.2 ∧ True) (fun _ t => gw D dA A o.1 ob ar t.heap) A) args s (27) (13082) A) 568 [(0, .ref ob), (7, .int (v7)), (8, .int (v8)), (10, .int (v10)), (11, .int (v11))] [] [] := by
  obtain ⟨hcs1, hcs2⟩ := hcs
  unfold fl_calls_568 at h
  refine z_iload X dL_calls_568 rfl ?_
  refine z_iload X dL_calls_570 rfl ?_
  refine z_if_lt (tgt := 579) X dL_calls_572 (by decide) (fun q => ?_) (fun q => ?_)
  · have h := zp q h
    refine z_iconst (v := 0) X dL_calls_579 (by decide) ?_
    refine zz.pick (lo' := [(0, .ref ob), (7, .int (v7)), (8, .int (v8)), (10, .int (v10))]) [0, 7, 8, 10] rfl ?_
    exact bl_calls_580 X Y hml hr ⟨by omega, by omega⟩ h
  · have h := zn q h
    refine z_iconst (v := 1) X dL_calls_575 (by decide) ?_
    refine z_goto (tgt := 580) X dL_calls_576 (by decide) ?_
    refine zz.pick (lo' := [(0, .ref ob), (7, .int (v7)), (8, .int (v8)), (10, .int (v10))]) [0, 7, 8, 10] rfl ?_
    exact bl_calls_580 X Y hml hr ⟨by omega, by omega⟩ h
def fl_calls_724 (σ : GS) (v7 : Int32) (v8 : Int32) (v11 : Int32) (s0 : Int32) (s1 : Int32) : Option (GS × Int32) := (if s0 = s1 then (aq_legOf σ.1 (v7)).bind fun o1 => (if v11 = 0 then (if o1 = (-1) then some (σ, 1)
  else some (σ, 0))
  else (if o1 = v8 then some (σ, 1)
  else some (σ, 0)))
  else some (σ, 0))
set_option maxRecDepth 100000 in
set_option maxHeartbeats 4000000 in
theorem bl_calls_724 {p : Program} {l : Launch} {e : Env} {s : State} {m : MethodId} {args : Array Value} {below : List Frame} {meth : Method} {c : Code} {D : va_G} {dA : Nat → ClassId} {A : Nat → Prop} {ar : Nat → Nat} {ob b Ls : Nat} {sc : Nat → Int32} {o : GS × Int32} (X : zc p l s m args meth c cL_calls RL D dA A) (Y : zY s A b Ls sc) (hml : c.maxLocals = 13) (hr : meth.sig.returnType = (some .boolean)) {cells slots : Nat} (hcs : cells + (0) ≤ 27 ∧ slots + (0) ≤ 13082) {σ : GS} {v7 : Int32} {v8 : Int32} {v11 : Int32} {s0 : Int32} {s1 : Int32} (h : fl_calls_724 σ v7 v8 v11 s0 s1 = some o) : zz p l e ({ frames := 16, cells := 27, slots := 13082, locals := 672 } : Room) s m args below meth c A (gw D dA A σ ob ar) cells slots (MQ below (va_Qi (fun r (_ : Unit) => r = o.2 ∧ True) (fun _ t => gw D dA A o.1 ob ar t.heap) A) args s (27) (13082) A) 724 [(0, .ref ob), (7, .int (v7)), (8, .int (v8)), (11, .int (v11))] [] [.int (s1), .int (s0)] := by
  obtain ⟨hcs1, hcs2⟩ := hcs
  unfold fl_calls_724 at h
  refine z_icmp_ne (tgt := 751) X dL_calls_724 (by decide) (fun q => ?_) (fun q => ?_)
  · have h := zp q h
    refine z_aload_n X dL_calls_727 rfl rfl ?_
    refine z_iload X dL_calls_728 rfl ?_
    obtain ⟨o1, co1, h⟩ := zb2 h
    refine l_q (As := [.int (v7)]) (rest := []) (nA := 1) (mc := 0) (ms := 0) (rm := ({ frames := 7, cells := 0, slots := 0, locals := 294 } : Room)) (r0 := o1) X (fun _ h11 => cz_legOf l X.2.2.2.2.2.2.2.2 X.2.2.2.2.2.2.1 h11 (fun _ z => nomatch z) (qo_eq co1)) n_313 n_314 n_315 n_1 n_316 nh_yX11_legOf ⟨rfl, rfl, Nat.le_of_ble_eq_true rfl, Nat.le_of_ble_eq_true rfl⟩ rfl rfl (Nat.le_of_ble_eq_true rfl) dL_calls_730 ⟨by show _ ≤ 27; omega, by show _ ≤ 13082; omega⟩ ?_
    refine z_iload X dL_calls_733 rfl ?_
    refine z_if_eq (tgt := 743) X dL_calls_735 (by decide) (fun q => ?_) (fun q => ?_)
    · have h := zp q h
      refine z_iconst (v := (-1)) X dL_calls_743 (by decide) ?_
      refine z_icmp_ne (tgt := 751) X dL_calls_744 (by decide) (fun q => ?_) (fun q => ?_)
      · have h := zp q h
        refine z_iconst (v := 1) X dL_calls_747 (by decide) ?_
        refine z_goto (tgt := 752) X dL_calls_748 (by decide) ?_
        obtain rfl := Option.some.inj h
        refine zz.widen (k := 27) (n := 13082) (by omega) (by omega) ?_
        exact z_iret X hr rfl (fun t hG hF _ => ⟨⟨_, (), rfl, ⟨rfl, trivial⟩, hG⟩, hF⟩) dL_calls_752
      · have h := zn q h
        refine z_iconst (v := 0) X dL_calls_751 (by decide) ?_
        obtain rfl := Option.some.inj h
        refine zz.widen (k := 27) (n := 13082) (by omega) (by omega) ?_
        exact z_iret X hr rfl (fun t hG hF _ => ⟨⟨_, (), rfl, ⟨rfl, trivial⟩, hG⟩, hF⟩) dL_calls_752
    · have h := zn q h
      refine z_iload X dL_calls_738 rfl ?_
      refine z_goto (tgt := 744) X dL_calls_740 (by decide) ?_
      refine z_icmp_ne (tgt := 751) X dL_calls_744 (by decide) (fun q => ?_) (fun q => ?_)
      · have h := zp q h
        refine z_iconst (v := 1) X dL_calls_747 (by decide) ?_
        refine z_goto (tgt := 752) X dL_calls_748 (by decide) ?_
        obtain rfl := Option.some.inj h
        refine zz.widen (k := 27) (n := 13082) (by omega) (by omega) ?_
        exact z_iret X hr rfl (fun t hG hF _ => ⟨⟨_, (), rfl, ⟨rfl, trivial⟩, hG⟩, hF⟩) dL_calls_752
      · have h := zn q h
        refine z_iconst (v := 0) X dL_calls_751 (by decide) ?_
        obtain rfl := Option.some.inj h
        refine zz.widen (k := 27) (n := 13082) (by omega) (by omega) ?_
        exact z_iret X hr rfl (fun t hG hF _ => ⟨⟨_, (), rfl, ⟨rfl, trivial⟩, hG⟩, hF⟩) dL_calls_752
  · have h := zn q h
    refine z_iconst (v := 0) X dL_calls_751 (by decide) ?_
    obtain rfl := Option.some.inj h
    refine zz.widen (k := 27) (n := 13082) (by omega) (by omega) ?_
    exact z_iret X hr rfl (fun t hG hF _ => ⟨⟨_, (), rfl, ⟨rfl, trivial⟩, hG⟩, hF⟩) dL_calls_752
def fl_calls_697 (σ : GS) (v7 : Int32) (v8 : Int32) (v10 : Int32) (v11 : Int32) : Option (GS × Int32) := (aq_cellOf σ.1 (v7)).bind fun o1 => (if o1 = v10 then (aq_stateOf σ.1 (v8)).bind fun o2 => (if v11 = 0 then fl_calls_724 σ v7 v8 v11 o2 3
  else fl_calls_724 σ v7 v8 v11 o2 0)
  else some (σ, 0))
set_option maxRecDepth 100000 in
set_option maxHeartbeats 4000000 in
theorem bl_calls_697 {p : Program} {l : Launch} {e : Env} {s : State} {m : MethodId} {args : Array Value} {below : List Frame} {meth : Method} {c : Code} {D : va_G} {dA : Nat → ClassId} {A : Nat → Prop} {ar : Nat → Nat} {ob b Ls : Nat} {sc : Nat → Int32} {o : GS × Int32} (X : zc p l s m args meth c cL_calls RL D dA A) (Y : zY s A b Ls sc) (hml : c.maxLocals = 13) (hr : meth.sig.returnType = (some .boolean)) {cells slots : Nat} (hcs : cells + (0) ≤ 27 ∧ slots + (0) ≤ 13082) {σ : GS} {v7 : Int32} {v8 : Int32} {v10 : Int32} {v11 : Int32} (h : fl_calls_697 σ v7 v8 v10 v11 = some o) : zz p l e ({ frames := 16, cells := 27, slots := 13082, locals := 672 } : Room) s m args below meth c A (gw D dA A σ ob ar) cells slots (MQ below (va_Qi (fun r (_ : Unit) => r = o.2 ∧ True) (fun _ t => gw D dA A o.1 ob ar t.heap) A) args s (27) (13082) A) 697 [(0, .ref ob), (7, .int (v7)), (8, .int (v8)), (10, .int (v10)), (11, .int (v11))] [] [] := by
  obtain ⟨hcs1, hcs2⟩ := hcs
  unfold fl_calls_697 at h
  refine z_aload_n X dL_calls_697 rfl rfl ?_
  refine z_iload X dL_calls_698 rfl ?_
  obtain ⟨o1, co1, h⟩ := zb2 h
  refine l_q (As := [.int (v7)]) (rest := []) (nA := 1) (mc := 0) (ms := 0) (rm := ({ frames := 7, cells := 0, slots := 0, locals := 294 } : Room)) (r0 := o1) X (fun _ h11 => cz_cellOf l X.2.2.2.2.2.2.2.2 X.2.2.2.2.2.2.1 h11 (fun _ z => nomatch z) (qo_eq co1)) n_761 n_762 n_763 n_1 n_764 nh_yX11_cellOf ⟨rfl, rfl, Nat.le_of_ble_eq_true rfl, Nat.le_of_ble_eq_true rfl⟩ rfl rfl (Nat.le_of_ble_eq_true rfl) dL_calls_700 ⟨by show _ ≤ 27; omega, by show _ ≤ 13082; omega⟩ ?_
  refine z_iload X dL_calls_703 rfl ?_
  refine z_icmp_ne (tgt := 751) X dL_calls_705 (by decide) (fun q => ?_) (fun q => ?_)
  · have h := zp q h
    refine z_aload_n X dL_calls_708 rfl rfl ?_
    refine z_iload X dL_calls_709 rfl ?_
    obtain ⟨o2, co2, h⟩ := zb2 h
    refine l_q (As := [.int (v8)]) (rest := []) (nA := 1) (mc := 0) (ms := 0) (rm := ({ frames := 10, cells := 0, slots := 0, locals := 420 } : Room)) (r0 := o2) X (fun _ h11 => cz_stateOf l X.2.2.2.2.2.2.2.2 X.2.2.2.2.2.2.1 h11 (fun _ z => nomatch z) (qo_eq co2)) n_775 n_776 n_777 n_1 n_778 nh_yX11_stateOf ⟨rfl, rfl, Nat.le_of_ble_eq_true rfl, Nat.le_of_ble_eq_true rfl⟩ rfl rfl (Nat.le_of_ble_eq_true rfl) dL_calls_711 ⟨by show _ ≤ 27; omega, by show _ ≤ 13082; omega⟩ ?_
    refine z_iload X dL_calls_714 rfl ?_
    refine z_if_eq (tgt := 723) X dL_calls_716 (by decide) (fun q => ?_) (fun q => ?_)
    · have h := zp q h
      refine z_iconst (v := 3) X dL_calls_723 (by decide) ?_
      refine zz.pick (lo' := [(0, .ref ob), (7, .int (v7)), (8, .int (v8)), (11, .int (v11))]) [0, 7, 8, 11] rfl ?_
      exact bl_calls_724 X Y hml hr ⟨by omega, by omega⟩ h
    · have h := zn q h
      refine z_iconst (v := 0) X dL_calls_719 (by decide) ?_
      refine z_goto (tgt := 724) X dL_calls_720 (by decide) ?_
      refine zz.pick (lo' := [(0, .ref ob), (7, .int (v7)), (8, .int (v8)), (11, .int (v11))]) [0, 7, 8, 11] rfl ?_
      exact bl_calls_724 X Y hml hr ⟨by omega, by omega⟩ h
  · have h := zn q h
    refine z_iconst (v := 0) X dL_calls_751 (by decide) ?_
    obtain rfl := Option.some.inj h
    refine zz.widen (k := 27) (n := 13082) (by omega) (by omega) ?_
    exact z_iret X hr rfl (fun t hG hF _ => ⟨⟨_, (), rfl, ⟨rfl, trivial⟩, hG⟩, hF⟩) dL_calls_752
def fl_calls_687 (σ : GS) (v7 : Int32) (v8 : Int32) (v10 : Int32) (v11 : Int32) (v12 : Int32) : Option (GS × Int32) := (if v12 = 0 then (if v11 = 0 then fl_calls_697 σ v7 v8 v10 v11
  else some (σ, 0))
  else fl_calls_697 σ v7 v8 v10 v11)
set_option maxRecDepth 100000 in
set_option maxHeartbeats 4000000 in
theorem bl_calls_687 {p : Program} {l : Launch} {e : Env} {s : State} {m : MethodId} {args : Array Value} {below : List Frame} {meth : Method} {c : Code} {D : va_G} {dA : Nat → ClassId} {A : Nat → Prop} {ar : Nat → Nat} {ob b Ls : Nat} {sc : Nat → Int32} {o : GS × Int32} (X : zc p l s m args meth c cL_calls RL D dA A) (Y : zY s A b Ls sc) (hml : c.maxLocals = 13) (hr : meth.sig.returnType = (some .boolean)) {cells slots : Nat} (hcs : cells + (0) ≤ 27 ∧ slots + (0) ≤ 13082) {σ : GS} {v7 : Int32} {v8 : Int32} {v10 : Int32} {v11 : Int32} {v12 : Int32} (h : fl_calls_687 σ v7 v8 v10 v11 v12 = some o) : zz p l e ({ frames := 16, cells := 27, slots := 13082, locals := 672 } : Room) s m args below meth c A (gw D dA A σ ob ar) cells slots (MQ below (va_Qi (fun r (_ : Unit) => r = o.2 ∧ True) (fun _ t => gw D dA A o.1 ob ar t.heap) A) args s (27) (13082) A) 687 [(0, .ref ob), (7, .int (v7)), (8, .int (v8)), (10, .int (v10)), (11, .int (v11)), (12, .int (v12))] [] [] := by
  obtain ⟨hcs1, hcs2⟩ := hcs
  unfold fl_calls_687 at h
  refine z_iload X dL_calls_687 rfl ?_
  refine z_if_ne (tgt := 697) X dL_calls_689 (by decide) (fun q => ?_) (fun q => ?_)
  · have h := zp q h
    refine z_iload X dL_calls_692 rfl ?_
    refine z_if_ne (tgt := 751) X dL_calls_694 (by decide) (fun q => ?_) (fun q => ?_)
    · have h := zp q h
      refine zz.pick (lo' := [(0, .ref ob), (7, .int (v7)), (8, .int (v8)), (10, .int (v10)), (11, .int (v11))]) [0, 7, 8, 10, 11] rfl ?_
      exact bl_calls_697 X Y hml hr ⟨by omega, by omega⟩ h
    · have h := zn q h
      refine z_iconst (v := 0) X dL_calls_751 (by decide) ?_
      obtain rfl := Option.some.inj h
      refine zz.widen (k := 27) (n := 13082) (by omega) (by omega) ?_
      exact z_iret X hr rfl (fun t hG hF _ => ⟨⟨_, (), rfl, ⟨rfl, trivial⟩, hG⟩, hF⟩) dL_calls_752
  · have h := zn q h
    refine zz.pick (lo' := [(0, .ref ob), (7, .int (v7)), (8, .int (v8)), (10, .int (v10)), (11, .int (v11))]) [0, 7, 8, 10, 11] rfl ?_
    exact bl_calls_697 X Y hml hr ⟨by omega, by omega⟩ h
def fl_calls_640 (σ : GS) (v7 : Int32) (v8 : Int32) (v10 : Int32) (v11 : Int32) (s0 : Int32) : Option (GS × Int32) := (if v11 = 0 then fl_calls_687 σ v7 v8 v10 v11 s0
  else if v8 < 0 ∨ 64 ≤ (v8).toNatClampNeg then none else (fl_event σ ((σ.2 1 (v8).toNatClampNeg)) (1) ((σ.2 2 (0).toNatClampNeg)) (v10)).bind fun o2 => if v8 < 0 ∨ 64 ≤ (v8).toNatClampNeg then none else (some ((σ.1, cs σ.2 1 (v8).toNatClampNeg (o2)) : GS)).bind fun σ3 => if v8 < 0 ∨ 64 ≤ (v8).toNatClampNeg then none else if v8 < 0 ∨ 64 ≤ (v8).toNatClampNeg then none else (some ((σ3.1, cs σ3.2 0 (v8).toNatClampNeg ((((σ3.2 0 (v8).toNatClampNeg) &&& (-7169)) ||| (v10 <<< (10 &&& 31))))) : GS)).bind fun σ6 => fl_calls_687 σ6 v7 v8 v10 v11 s0)
set_option maxRecDepth 100000 in
set_option maxHeartbeats 4000000 in
theorem bl_calls_640 {p : Program} {l : Launch} {e : Env} {s : State} {m : MethodId} {args : Array Value} {below : List Frame} {meth : Method} {c : Code} {D : va_G} {dA : Nat → ClassId} {A : Nat → Prop} {ar : Nat → Nat} {ob b Ls : Nat} {sc : Nat → Int32} {o : GS × Int32} (X : zc p l s m args meth c cL_calls RL D dA A) (Y : zY s A b Ls sc) (hml : c.maxLocals = 13) (hr : meth.sig.returnType = (some .boolean)) {cells slots : Nat} (hcs : cells + (0) ≤ 27 ∧ slots + (0) ≤ 13082) {σ : GS} {v7 : Int32} {v8 : Int32} {v10 : Int32} {v11 : Int32} {s0 : Int32} (h : fl_calls_640 σ v7 v8 v10 v11 s0 = some o) : zz p l e ({ frames := 16, cells := 27, slots := 13082, locals := 672 } : Room) s m args below meth c A (gw D dA A σ ob ar) cells slots (MQ below (va_Qi (fun r (_ : Unit) => r = o.2 ∧ True) (fun _ t => gw D dA A o.1 ob ar t.heap) A) args s (27) (13082) A) 640 [(0, .ref ob), (4, .ref (ar 0)), (5, .ref (ar 1)), (6, .ref (ar 2)), (7, .int (v7)), (8, .int (v8)), (10, .int (v10)), (11, .int (v11))] [] [.int (s0)] := by
  obtain ⟨hcs1, hcs2⟩ := hcs
  unfold fl_calls_640 at h
  refine z_istore (lo' := [(12, .int (s0)), (0, .ref ob), (4, .ref (ar 0)), (5, .ref (ar 1)), (6, .ref (ar 2)), (7, .int (v7)), (8, .int (v8)), (10, .int (v10)), (11, .int (v11))]) X dL_calls_640 (by rw [hml]; decide) rfl rfl ?_
  refine z_iload X dL_calls_642 rfl ?_
  refine z_if_eq (tgt := 687) X dL_calls_644 (by decide) (fun q => ?_) (fun q => ?_)
  · have h := zp q h
    refine zz.pick (lo' := [(0, .ref ob), (7, .int (v7)), (8, .int (v8)), (10, .int (v10)), (11, .int (v11)), (12, .int (s0))]) [0, 7, 8, 10, 11, 12] rfl ?_
    exact bl_calls_687 X Y hml hr ⟨by omega, by omega⟩ h
  · have h := zn q h
    refine z_aload X dL_calls_647 rfl ?_
    refine z_iload X dL_calls_649 rfl ?_
    refine z_aload X dL_calls_651 rfl ?_
    refine z_iload X dL_calls_653 rfl ?_
    obtain ⟨q1, h⟩ := zg h
    refine l_ald X 1 rfl q1 dL_calls_655 ?_
    refine z_iconst (v := 1) X dL_calls_656 (by decide) ?_
    refine z_aload X dL_calls_657 rfl ?_
    refine z_iconst (v := 0) X dL_calls_659 (by decide) ?_
    refine l_ald X 2 rfl (by decide) dL_calls_660 ?_
    refine z_iload X dL_calls_661 rfl ?_
    obtain ⟨o2, co2, h⟩ := zb2 h
    refine z_lSi (As := [.int ((σ.2 1 (v8).toNatClampNeg)), .int (1), .int ((σ.2 2 (0).toNatClampNeg)), .int (v10)]) (rest := [.int (v8), .ref (ar 1)]) (nA := 4) (mc := 0) (ms := 0) (r0 := o2) (pu := fun (_ : Unit) => True) (G1 := fun _ => gw D dA A σ ob ar) X Y (ll_event l X.2.2.2.2.2.2.2.2 X.2.2.2.2.2.2.1 Y.2.2.2 co2) n_768 n_769 n_0 n_770 nh_yL_event ⟨rfl, rfl, Nat.le_of_ble_eq_true rfl, Nat.le_of_ble_eq_true rfl⟩ rfl rfl (Nat.le_of_ble_eq_true rfl) dL_calls_663 ⟨by show _ ≤ 27; omega, by show _ ≤ 13082; omega⟩ (fun _ _ => ?_)
    obtain ⟨q4, h⟩ := zg h
    obtain ⟨σ3, eσ3, h⟩ := zb h
    refine l_ast X 1 rfl q4 eσ3 dL_calls_666 ?_
    refine z_aload X dL_calls_667 rfl ?_
    refine z_iload X dL_calls_669 rfl ?_
    refine z_aload X dL_calls_671 rfl ?_
    refine z_iload X dL_calls_673 rfl ?_
    obtain ⟨q5, h⟩ := zg h
    refine l_ald X 0 rfl q5 dL_calls_675 ?_
    refine z_sipush (v := (-7169)) X dL_calls_676 (by decide) ?_
    refine z_iand X dL_calls_679 ?_
    refine z_iload X dL_calls_680 rfl ?_
    refine z_bipush (v := 10) X dL_calls_682 (by decide) ?_
    refine z_ishl X dL_calls_684 ?_
    refine z_ior X dL_calls_685 ?_
    obtain ⟨q7, h⟩ := zg h
    obtain ⟨σ6, eσ6, h⟩ := zb h
    refine l_ast X 0 rfl q7 eσ6 dL_calls_686 ?_
    refine zz.pick (lo' := [(0, .ref ob), (7, .int (v7)), (8, .int (v8)), (10, .int (v10)), (11, .int (v11)), (12, .int (s0))]) [0, 7, 8, 10, 11, 12] rfl ?_
    exact bl_calls_687 X Y hml hr ⟨by omega, by omega⟩ h
def fl_calls_635 (σ : GS) (v7 : Int32) (v8 : Int32) (v10 : Int32) (v11 : Int32) : Option (GS × Int32) := fl_calls_640 σ v7 v8 v10 v11 1
set_option maxRecDepth 100000 in
set_option maxHeartbeats 4000000 in
theorem bl_calls_635 {p : Program} {l : Launch} {e : Env} {s : State} {m : MethodId} {args : Array Value} {below : List Frame} {meth : Method} {c : Code} {D : va_G} {dA : Nat → ClassId} {A : Nat → Prop} {ar : Nat → Nat} {ob b Ls : Nat} {sc : Nat → Int32} {o : GS × Int32} (X : zc p l s m args meth c cL_calls RL D dA A) (Y : zY s A b Ls sc) (hml : c.maxLocals = 13) (hr : meth.sig.returnType = (some .boolean)) {cells slots : Nat} (hcs : cells + (0) ≤ 27 ∧ slots + (0) ≤ 13082) {σ : GS} {v7 : Int32} {v8 : Int32} {v10 : Int32} {v11 : Int32} (h : fl_calls_635 σ v7 v8 v10 v11 = some o) : zz p l e ({ frames := 16, cells := 27, slots := 13082, locals := 672 } : Room) s m args below meth c A (gw D dA A σ ob ar) cells slots (MQ below (va_Qi (fun r (_ : Unit) => r = o.2 ∧ True) (fun _ t => gw D dA A o.1 ob ar t.heap) A) args s (27) (13082) A) 635 [(0, .ref ob), (4, .ref (ar 0)), (5, .ref (ar 1)), (6, .ref (ar 2)), (7, .int (v7)), (8, .int (v8)), (10, .int (v10)), (11, .int (v11))] [] [] := by
  obtain ⟨hcs1, hcs2⟩ := hcs
  unfold fl_calls_635 at h
  refine z_iconst (v := 1) X dL_calls_635 (by decide) ?_
  refine z_goto (tgt := 640) X dL_calls_636 (by decide) ?_
  refine zz.pick (lo' := [(0, .ref ob), (4, .ref (ar 0)), (5, .ref (ar 1)), (6, .ref (ar 2)), (7, .int (v7)), (8, .int (v8)), (10, .int (v10)), (11, .int (v11))]) [0, 4, 5, 6, 7, 8, 10, 11] rfl ?_
  exact bl_calls_640 X Y hml hr ⟨by omega, by omega⟩ h
def fl_calls_544 (σ : GS) (v7 : Int32) (v8 : Int32) (v9 : Int32) (s0 : Int32) : Option (GS × Int32) := (da_move σ.1 (v7) (s0)).bind fun o1 => (some ((o1.1, σ.2) : GS)).bind fun σ2 => (some (o1.2)).bind fun x3 => (if v8 < 0 then fl_calls_568 σ2 v7 v8 s0 x3
  else (if s0 = v9 then fl_calls_568 σ2 v7 v8 s0 x3
  else (if ((v9 + 1) - (v9 + 1) / 8 * 8) = s0 then fl_calls_635 σ2 v7 v8 s0 x3
  else (if ((s0 + 1) - (s0 + 1) / 8 * 8) = v9 then fl_calls_635 σ2 v7 v8 s0 x3
  else fl_calls_640 σ2 v7 v8 s0 x3 0))))
set_option maxRecDepth 100000 in
set_option maxHeartbeats 4000000 in
theorem bl_calls_544 {p : Program} {l : Launch} {e : Env} {s : State} {m : MethodId} {args : Array Value} {below : List Frame} {meth : Method} {c : Code} {D : va_G} {dA : Nat → ClassId} {A : Nat → Prop} {ar : Nat → Nat} {ob b Ls : Nat} {sc : Nat → Int32} {o : GS × Int32} (X : zc p l s m args meth c cL_calls RL D dA A) (Y : zY s A b Ls sc) (hml : c.maxLocals = 13) (hr : meth.sig.returnType = (some .boolean)) {cells slots : Nat} (hcs : cells + (6) ≤ 27 ∧ slots + (1838) ≤ 13082) {σ : GS} {v7 : Int32} {v8 : Int32} {v9 : Int32} {s0 : Int32} (h : fl_calls_544 σ v7 v8 v9 s0 = some o) : zz p l e ({ frames := 16, cells := 27, slots := 13082, locals := 672 } : Room) s m args below meth c A (gw D dA A σ ob ar) cells slots (MQ below (va_Qi (fun r (_ : Unit) => r = o.2 ∧ True) (fun _ t => gw D dA A o.1 ob ar t.heap) A) args s (27) (13082) A) 544 [(0, .ref ob), (4, .ref (ar 0)), (5, .ref (ar 1)), (6, .ref (ar 2)), (7, .int (v7)), (8, .int (v8)), (9, .int (v9))] [] [.int (s0)] := by
  obtain ⟨hcs1, hcs2⟩ := hcs
  unfold fl_calls_544 at h
  refine z_istore (lo' := [(10, .int (s0)), (0, .ref ob), (4, .ref (ar 0)), (5, .ref (ar 1)), (6, .ref (ar 2)), (7, .int (v7)), (8, .int (v8)), (9, .int (v9))]) X dL_calls_544 (by rw [hml]; decide) rfl rfl ?_
  refine z_aload_n X dL_calls_546 rfl rfl ?_
  refine z_iload X dL_calls_547 rfl ?_
  refine z_iload X dL_calls_549 rfl ?_
  obtain ⟨o1, co1, h⟩ := zb2 h
  obtain ⟨σ2, eσ2, h⟩ := zb h
  refine l_a (As := [.int (v7), .int (s0)]) (rest := []) (nA := 2) (mc := 6) (ms := 1838) (rm := ({ frames := 12, cells := 6, slots := 1838, locals := 504 } : Room)) (o := o1) X (fun _ h11 => cc_move l X.2.2.2.2.2.2.2.2 X.2.2.2.2.2.2.1 h11 (ao_eq co1)) n_787 n_788 n_789 n_1 n_790 nh_yX11_move ⟨rfl, rfl, Nat.le_of_ble_eq_true rfl, Nat.le_of_ble_eq_true rfl⟩ rfl rfl (Nat.le_of_ble_eq_true rfl) dL_calls_551 ⟨by show _ ≤ 27; omega, by show _ ≤ 13082; omega⟩ ?_
  rw [eσ2]
  obtain ⟨x3, ex3, h⟩ := zb h
  rw [ex3]
  refine z_istore (lo' := [(11, .int (x3)), (10, .int (s0)), (0, .ref ob), (4, .ref (ar 0)), (5, .ref (ar 1)), (6, .ref (ar 2)), (7, .int (v7)), (8, .int (v8)), (9, .int (v9))]) X dL_calls_554 (by rw [hml]; decide) rfl rfl ?_
  refine z_iload X dL_calls_556 rfl ?_
  refine z_if_lt (tgt := 568) X dL_calls_558 (by decide) (fun q => ?_) (fun q => ?_)
  · have h := zp q h
    refine zz.pick (lo' := [(0, .ref ob), (7, .int (v7)), (8, .int (v8)), (10, .int (s0)), (11, .int (x3))]) [0, 7, 8, 10, 11] rfl ?_
    exact bl_calls_568 X Y hml hr ⟨by omega, by omega⟩ h
  · have h := zn q h
    refine z_iload X dL_calls_561 rfl ?_
    refine z_iload X dL_calls_563 rfl ?_
    refine z_icmp_ne (tgt := 611) X dL_calls_565 (by decide) (fun q => ?_) (fun q => ?_)
    · have h := zp q h
      refine zz.pick (lo' := [(0, .ref ob), (7, .int (v7)), (8, .int (v8)), (10, .int (s0)), (11, .int (x3))]) [0, 7, 8, 10, 11] rfl ?_
      exact bl_calls_568 X Y hml hr ⟨by omega, by omega⟩ h
    · have h := zn q h
      refine z_iload X dL_calls_611 rfl ?_
      refine z_iconst (v := 1) X dL_calls_613 (by decide) ?_
      refine z_iadd X dL_calls_614 ?_
      refine z_bipush (v := 8) X dL_calls_615 (by decide) ?_
      refine z_irem X dL_calls_617 (by decide) ?_
      refine z_iload X dL_calls_618 rfl ?_
      refine z_icmp_eq (tgt := 635) X dL_calls_620 (by decide) (fun q => ?_) (fun q => ?_)
      · have h := zp q h
        refine zz.pick (lo' := [(0, .ref ob), (4, .ref (ar 0)), (5, .ref (ar 1)), (6, .ref (ar 2)), (7, .int (v7)), (8, .int (v8)), (10, .int (s0)), (11, .int (x3))]) [0, 4, 5, 6, 7, 8, 10, 11] rfl ?_
        exact bl_calls_635 X Y hml hr ⟨by omega, by omega⟩ h
      · have h := zn q h
        refine z_iload X dL_calls_623 rfl ?_
        refine z_iconst (v := 1) X dL_calls_625 (by decide) ?_
        refine z_iadd X dL_calls_626 ?_
        refine z_bipush (v := 8) X dL_calls_627 (by decide) ?_
        refine z_irem X dL_calls_629 (by decide) ?_
        refine z_iload X dL_calls_630 rfl ?_
        refine z_icmp_ne (tgt := 639) X dL_calls_632 (by decide) (fun q => ?_) (fun q => ?_)
        · have h := zp q h
          refine zz.pick (lo' := [(0, .ref ob), (4, .ref (ar 0)), (5, .ref (ar 1)), (6, .ref (ar 2)), (7, .int (v7)), (8, .int (v8)), (10, .int (s0)), (11, .int (x3))]) [0, 4, 5, 6, 7, 8, 10, 11] rfl ?_
          exact bl_calls_635 X Y hml hr ⟨by omega, by omega⟩ h
        · have h := zn q h
          refine z_iconst (v := 0) X dL_calls_639 (by decide) ?_
          refine zz.pick (lo' := [(0, .ref ob), (4, .ref (ar 0)), (5, .ref (ar 1)), (6, .ref (ar 2)), (7, .int (v7)), (8, .int (v8)), (10, .int (s0)), (11, .int (x3))]) [0, 4, 5, 6, 7, 8, 10, 11] rfl ?_
          exact bl_calls_640 X Y hml hr ⟨by omega, by omega⟩ h
def fl_calls_540 (σ : GS) (v7 : Int32) (v8 : Int32) (v9 : Int32) (s0 : Int32) (s1 : Int32) : Option (GS × Int32) := fl_calls_544 σ v7 v8 v9 ((s0 + s1) - (s0 + s1) / 8 * 8)
set_option maxRecDepth 100000 in
set_option maxHeartbeats 4000000 in
theorem bl_calls_540 {p : Program} {l : Launch} {e : Env} {s : State} {m : MethodId} {args : Array Value} {below : List Frame} {meth : Method} {c : Code} {D : va_G} {dA : Nat → ClassId} {A : Nat → Prop} {ar : Nat → Nat} {ob b Ls : Nat} {sc : Nat → Int32} {o : GS × Int32} (X : zc p l s m args meth c cL_calls RL D dA A) (Y : zY s A b Ls sc) (hml : c.maxLocals = 13) (hr : meth.sig.returnType = (some .boolean)) {cells slots : Nat} (hcs : cells + (6) ≤ 27 ∧ slots + (1838) ≤ 13082) {σ : GS} {v7 : Int32} {v8 : Int32} {v9 : Int32} {s0 : Int32} {s1 : Int32} (h : fl_calls_540 σ v7 v8 v9 s0 s1 = some o) : zz p l e ({ frames := 16, cells := 27, slots := 13082, locals := 672 } : Room) s m args below meth c A (gw D dA A σ ob ar) cells slots (MQ below (va_Qi (fun r (_ : Unit) => r = o.2 ∧ True) (fun _ t => gw D dA A o.1 ob ar t.heap) A) args s (27) (13082) A) 540 [(0, .ref ob), (4, .ref (ar 0)), (5, .ref (ar 1)), (6, .ref (ar 2)), (7, .int (v7)), (8, .int (v8)), (9, .int (v9))] [] [.int (s1), .int (s0)] := by
  obtain ⟨hcs1, hcs2⟩ := hcs
  unfold fl_calls_540 at h
  refine z_iadd X dL_calls_540 ?_
  refine z_bipush (v := 8) X dL_calls_541 (by decide) ?_
  refine z_irem X dL_calls_543 (by decide) ?_
  refine zz.pick (lo' := [(0, .ref ob), (4, .ref (ar 0)), (5, .ref (ar 1)), (6, .ref (ar 2)), (7, .int (v7)), (8, .int (v8)), (9, .int (v9))]) [0, 4, 5, 6, 7, 8, 9] rfl ?_
  exact bl_calls_544 X Y hml hr ⟨by omega, by omega⟩ h
def fl_calls (σ : GS) (a1 : Int32) (a2 : Int32) (a3 : Int32) : Option (GS × Int32) := (some ((a2 - a2 / 10 * 10))).bind fun x1 => (if a1 = 0 then (some ((a3 - a3 / 10 * 10))).bind fun x2 => (aq_legOf σ.1 (x1)).bind fun o3 => (if 0 ≤ o3 then fl_calls_34 σ a3 x1 x2
  else (aq_legOf σ.1 (x2)).bind fun o4 => (if o4 < 0 then fl_calls_39 σ a3 x1 x2 0
  else fl_calls_34 σ a3 x1 x2))
  else (if a1 = 1 then (if (σ.2 2 (1).toNatClampNeg) = 0 then some (σ, 1)
  else (if 4 ≤ (σ.2 2 (1).toNatClampNeg) then fl_calls_204 σ a3 x1 ((σ.2 2 (1).toNatClampNeg) - 1) a3 4
  else fl_calls_204 σ a3 x1 ((σ.2 2 (1).toNatClampNeg) - 1) a3 (σ.2 2 (1).toNatClampNeg)))
  else (aq_legOf σ.1 (x1)).bind fun o5 => (if a1 = 2 then (if 0 ≤ o5 then if o5 < 0 ∨ 64 ≤ (o5).toNatClampNeg then none else (fl_part σ ((σ.2 0 (o5).toNatClampNeg)) (4) (6)).bind fun o7 => fl_calls_407 σ x1 o5 o7
  else fl_calls_407 σ x1 o5 (-1))
  else (aq_cellOf σ.1 (x1)).bind fun o8 => (if (a3 - a3 / 3 * 3) = 0 then fl_calls_544 σ x1 o5 o8 ((a3 / 3) - (a3 / 3) / 8 * 8)
  else (if (a3 - a3 / 3 * 3) = 1 then fl_calls_540 σ x1 o5 o8 o8 1
  else fl_calls_540 σ x1 o5 o8 o8 7)))))
set_option maxRecDepth 100000 in
set_option maxHeartbeats 4000000 in
theorem bl_calls {p : Program} {l : Launch} {e : Env} {s : State} {m : MethodId} {args : Array Value} {below : List Frame} {meth : Method} {c : Code} {D : va_G} {dA : Nat → ClassId} {A : Nat → Prop} {ar : Nat → Nat} {ob b Ls : Nat} {sc : Nat → Int32} {o : GS × Int32} (X : zc p l s m args meth c cL_calls RL D dA A) (Y : zY s A b Ls sc) (hml : c.maxLocals = 13) (hr : meth.sig.returnType = (some .boolean)) {cells slots : Nat} (hcs : cells + (27) ≤ 27 ∧ slots + (13082) ≤ 13082) {σ : GS} {a1 : Int32} {a2 : Int32} {a3 : Int32} (h : fl_calls σ a1 a2 a3 = some o) : zz p l e ({ frames := 16, cells := 27, slots := 13082, locals := 672 } : Room) s m args below meth c A (gw D dA A σ ob ar) cells slots (MQ below (va_Qi (fun r (_ : Unit) => r = o.2 ∧ True) (fun _ t => gw D dA A o.1 ob ar t.heap) A) args s (27) (13082) A) 0 [(0, .ref ob), (1, .int (a1)), (2, .int (a2)), (3, .int (a3)), (4, .ref (ar 0)), (5, .ref (ar 1)), (6, .ref (ar 2))] [] [] := by
  obtain ⟨hcs1, hcs2⟩ := hcs
  unfold fl_calls at h
  refine z_iload_n X dL_calls_0 rfl rfl ?_
  refine z_bipush (v := 10) X dL_calls_1 (by decide) ?_
  refine z_irem X dL_calls_3 (by decide) ?_
  obtain ⟨x1, ex1, h⟩ := zb h
  rw [ex1]
  refine z_istore (lo' := [(7, .int (x1)), (0, .ref ob), (1, .int (a1)), (2, .int (a2)), (3, .int (a3)), (4, .ref (ar 0)), (5, .ref (ar 1)), (6, .ref (ar 2))]) X dL_calls_4 (by rw [hml]; decide) rfl rfl ?_
  refine z_iload_n X dL_calls_6 rfl rfl ?_
  refine z_if_ne (tgt := 167) X dL_calls_7 (by decide) (fun q => ?_) (fun q => ?_)
  · have h := zp q h
    refine z_iload_n X dL_calls_10 rfl rfl ?_
    refine z_bipush (v := 10) X dL_calls_11 (by decide) ?_
    refine z_irem X dL_calls_13 (by decide) ?_
    obtain ⟨x2, ex2, h⟩ := zb h
    rw [ex2]
    refine z_istore (lo' := [(8, .int (x2)), (7, .int (x1)), (0, .ref ob), (1, .int (a1)), (2, .int (a2)), (3, .int (a3)), (4, .ref (ar 0)), (5, .ref (ar 1)), (6, .ref (ar 2))]) X dL_calls_14 (by rw [hml]; decide) rfl rfl ?_
    refine z_aload_n X dL_calls_16 rfl rfl ?_
    refine z_iload X dL_calls_17 rfl ?_
    obtain ⟨o3, co3, h⟩ := zb2 h
    refine l_q (As := [.int (x1)]) (rest := []) (nA := 1) (mc := 0) (ms := 0) (rm := ({ frames := 7, cells := 0, slots := 0, locals := 294 } : Room)) (r0 := o3) X (fun _ h11 => cz_legOf l X.2.2.2.2.2.2.2.2 X.2.2.2.2.2.2.1 h11 (fun _ z => nomatch z) (qo_eq co3)) n_313 n_314 n_315 n_1 n_316 nh_yX11_legOf ⟨rfl, rfl, Nat.le_of_ble_eq_true rfl, Nat.le_of_ble_eq_true rfl⟩ rfl rfl (Nat.le_of_ble_eq_true rfl) dL_calls_19 ⟨by show _ ≤ 27; omega, by show _ ≤ 13082; omega⟩ ?_
    refine z_if_ge (tgt := 34) X dL_calls_22 (by decide) (fun q => ?_) (fun q => ?_)
    · have h := zp q h
      refine zz.pick (lo' := [(0, .ref ob), (3, .int (a3)), (4, .ref (ar 0)), (5, .ref (ar 1)), (6, .ref (ar 2)), (7, .int (x1)), (8, .int (x2))]) [0, 3, 4, 5, 6, 7, 8] rfl ?_
      exact bl_calls_34 X Y hml hr ⟨by omega, by omega⟩ h
    · have h := zn q h
      refine z_aload_n X dL_calls_25 rfl rfl ?_
      refine z_iload X dL_calls_26 rfl ?_
      obtain ⟨o4, co4, h⟩ := zb2 h
      refine l_q (As := [.int (x2)]) (rest := []) (nA := 1) (mc := 0) (ms := 0) (rm := ({ frames := 7, cells := 0, slots := 0, locals := 294 } : Room)) (r0 := o4) X (fun _ h11 => cz_legOf l X.2.2.2.2.2.2.2.2 X.2.2.2.2.2.2.1 h11 (fun _ z => nomatch z) (qo_eq co4)) n_313 n_314 n_315 n_1 n_316 nh_yX11_legOf ⟨rfl, rfl, Nat.le_of_ble_eq_true rfl, Nat.le_of_ble_eq_true rfl⟩ rfl rfl (Nat.le_of_ble_eq_true rfl) dL_calls_28 ⟨by show _ ≤ 27; omega, by show _ ≤ 13082; omega⟩ ?_
      refine z_if_lt (tgt := 38) X dL_calls_31 (by decide) (fun q => ?_) (fun q => ?_)
      · have h := zp q h
        refine z_iconst (v := 0) X dL_calls_38 (by decide) ?_
        refine zz.pick (lo' := [(0, .ref ob), (3, .int (a3)), (4, .ref (ar 0)), (5, .ref (ar 1)), (6, .ref (ar 2)), (7, .int (x1)), (8, .int (x2))]) [0, 3, 4, 5, 6, 7, 8] rfl ?_
        exact bl_calls_39 X Y hml hr ⟨by omega, by omega⟩ h
      · have h := zn q h
        refine zz.pick (lo' := [(0, .ref ob), (3, .int (a3)), (4, .ref (ar 0)), (5, .ref (ar 1)), (6, .ref (ar 2)), (7, .int (x1)), (8, .int (x2))]) [0, 3, 4, 5, 6, 7, 8] rfl ?_
        exact bl_calls_34 X Y hml hr ⟨by omega, by omega⟩ h
  · have h := zn q h
    refine z_iload_n X dL_calls_167 rfl rfl ?_
    refine z_iconst (v := 1) X dL_calls_168 (by decide) ?_
    refine z_icmp_ne (tgt := 374) X dL_calls_169 (by decide) (fun q => ?_) (fun q => ?_)
    · have h := zp q h
      refine z_aload X dL_calls_172 rfl ?_
      refine z_iconst (v := 1) X dL_calls_174 (by decide) ?_
      refine l_ald X 2 rfl (by decide) dL_calls_175 ?_
      refine z_if_ne (tgt := 181) X dL_calls_176 (by decide) (fun q => ?_) (fun q => ?_)
      · have h := zp q h
        refine z_iconst (v := 1) X dL_calls_179 (by decide) ?_
        obtain rfl := Option.some.inj h
        refine zz.widen (k := 27) (n := 13082) (by omega) (by omega) ?_
        exact z_iret X hr rfl (fun t hG hF _ => ⟨⟨_, (), rfl, ⟨rfl, trivial⟩, hG⟩, hF⟩) dL_calls_180
      · have h := zn q h
        refine z_aload X dL_calls_181 rfl ?_
        refine z_iconst (v := 1) X dL_calls_183 (by decide) ?_
        refine l_ald X 2 rfl (by decide) dL_calls_184 ?_
        refine z_iconst (v := 1) X dL_calls_185 (by decide) ?_
        refine z_isub X dL_calls_186 ?_
        refine z_iload_n X dL_calls_187 rfl rfl ?_
        refine z_aload X dL_calls_188 rfl ?_
        refine z_iconst (v := 1) X dL_calls_190 (by decide) ?_
        refine l_ald X 2 rfl (by decide) dL_calls_191 ?_
        refine z_iconst (v := 4) X dL_calls_192 (by decide) ?_
        refine z_icmp_ge (tgt := 203) X dL_calls_193 (by decide) (fun q => ?_) (fun q => ?_)
        · have h := zp q h
          refine z_iconst (v := 4) X dL_calls_203 (by decide) ?_
          refine zz.pick (lo' := [(0, .ref ob), (3, .int (a3)), (4, .ref (ar 0)), (5, .ref (ar 1)), (6, .ref (ar 2)), (7, .int (x1))]) [0, 3, 4, 5, 6, 7] rfl ?_
          exact bl_calls_204 X Y hml hr ⟨by omega, by omega⟩ h
        · have h := zn q h
          refine z_aload X dL_calls_196 rfl ?_
          refine z_iconst (v := 1) X dL_calls_198 (by decide) ?_
          refine l_ald X 2 rfl (by decide) dL_calls_199 ?_
          refine z_goto (tgt := 204) X dL_calls_200 (by decide) ?_
          refine zz.pick (lo' := [(0, .ref ob), (3, .int (a3)), (4, .ref (ar 0)), (5, .ref (ar 1)), (6, .ref (ar 2)), (7, .int (x1))]) [0, 3, 4, 5, 6, 7] rfl ?_
          exact bl_calls_204 X Y hml hr ⟨by omega, by omega⟩ h
    · have h := zn q h
      refine z_aload_n X dL_calls_374 rfl rfl ?_
      refine z_iload X dL_calls_375 rfl ?_
      obtain ⟨o5, co5, h⟩ := zb2 h
      refine l_q (As := [.int (x1)]) (rest := []) (nA := 1) (mc := 0) (ms := 0) (rm := ({ frames := 7, cells := 0, slots := 0, locals := 294 } : Room)) (r0 := o5) X (fun _ h11 => cz_legOf l X.2.2.2.2.2.2.2.2 X.2.2.2.2.2.2.1 h11 (fun _ z => nomatch z) (qo_eq co5)) n_313 n_314 n_315 n_1 n_316 nh_yX11_legOf ⟨rfl, rfl, Nat.le_of_ble_eq_true rfl, Nat.le_of_ble_eq_true rfl⟩ rfl rfl (Nat.le_of_ble_eq_true rfl) dL_calls_377 ⟨by show _ ≤ 27; omega, by show _ ≤ 13082; omega⟩ ?_
      refine z_istore (lo' := [(8, .int (o5)), (7, .int (x1)), (0, .ref ob), (1, .int (a1)), (2, .int (a2)), (3, .int (a3)), (4, .ref (ar 0)), (5, .ref (ar 1)), (6, .ref (ar 2))]) X dL_calls_380 (by rw [hml]; decide) rfl rfl ?_
      refine z_iload_n X dL_calls_382 rfl rfl ?_
      refine z_iconst (v := 2) X dL_calls_383 (by decide) ?_
      refine z_icmp_ne (tgt := 502) X dL_calls_384 (by decide) (fun q => ?_) (fun q => ?_)
      · have h := zp q h
        refine z_iload X dL_calls_387 rfl ?_
        refine z_if_ge (tgt := 396) X dL_calls_389 (by decide) (fun q => ?_) (fun q => ?_)
        · have h := zp q h
          refine z_aload X dL_calls_396 rfl ?_
          refine z_iload X dL_calls_398 rfl ?_
          obtain ⟨q6, h⟩ := zg h
          refine l_ald X 0 rfl q6 dL_calls_400 ?_
          refine z_iconst (v := 4) X dL_calls_401 (by decide) ?_
          refine z_bipush (v := 6) X dL_calls_402 (by decide) ?_
          obtain ⟨o7, co7, h⟩ := zb2 h
          refine z_lSi (As := [.int ((σ.2 0 (o5).toNatClampNeg)), .int (4), .int (6)]) (rest := []) (nA := 3) (mc := 0) (ms := 0) (r0 := o7) (pu := fun (_ : Unit) => True) (G1 := fun _ => gw D dA A σ ob ar) X Y (ll_part l X.2.2.2.2.2.2.2.2 X.2.2.2.2.2.2.1 Y.2.2.2 co7) n_784 n_785 n_0 n_786 nh_yL_part ⟨rfl, rfl, Nat.le_of_ble_eq_true rfl, Nat.le_of_ble_eq_true rfl⟩ rfl rfl (Nat.le_of_ble_eq_true rfl) dL_calls_404 ⟨by show _ ≤ 27; omega, by show _ ≤ 13082; omega⟩ (fun _ _ => ?_)
          refine zz.pick (lo' := [(0, .ref ob), (7, .int (x1)), (8, .int (o5))]) [0, 7, 8] rfl ?_
          exact bl_calls_407 X Y hml hr ⟨by omega, by omega⟩ h
        · have h := zn q h
          refine z_iconst (v := (-1)) X dL_calls_392 (by decide) ?_
          refine z_goto (tgt := 407) X dL_calls_393 (by decide) ?_
          refine zz.pick (lo' := [(0, .ref ob), (7, .int (x1)), (8, .int (o5))]) [0, 7, 8] rfl ?_
          exact bl_calls_407 X Y hml hr ⟨by omega, by omega⟩ h
      · have h := zn q h
        refine z_aload_n X dL_calls_502 rfl rfl ?_
        refine z_iload X dL_calls_503 rfl ?_
        obtain ⟨o8, co8, h⟩ := zb2 h
        refine l_q (As := [.int (x1)]) (rest := []) (nA := 1) (mc := 0) (ms := 0) (rm := ({ frames := 7, cells := 0, slots := 0, locals := 294 } : Room)) (r0 := o8) X (fun _ h11 => cz_cellOf l X.2.2.2.2.2.2.2.2 X.2.2.2.2.2.2.1 h11 (fun _ z => nomatch z) (qo_eq co8)) n_761 n_762 n_763 n_1 n_764 nh_yX11_cellOf ⟨rfl, rfl, Nat.le_of_ble_eq_true rfl, Nat.le_of_ble_eq_true rfl⟩ rfl rfl (Nat.le_of_ble_eq_true rfl) dL_calls_505 ⟨by show _ ≤ 27; omega, by show _ ≤ 13082; omega⟩ ?_
        refine z_istore (lo' := [(9, .int (o8)), (8, .int (o5)), (7, .int (x1)), (0, .ref ob), (1, .int (a1)), (2, .int (a2)), (3, .int (a3)), (4, .ref (ar 0)), (5, .ref (ar 1)), (6, .ref (ar 2))]) X dL_calls_508 (by rw [hml]; decide) rfl rfl ?_
        refine z_iload_n X dL_calls_510 rfl rfl ?_
        refine z_iconst (v := 3) X dL_calls_511 (by decide) ?_
        refine z_irem X dL_calls_512 (by decide) ?_
        refine z_if_ne (tgt := 525) X dL_calls_513 (by decide) (fun q => ?_) (fun q => ?_)
        · have h := zp q h
          refine z_iload_n X dL_calls_516 rfl rfl ?_
          refine z_iconst (v := 3) X dL_calls_517 (by decide) ?_
          refine z_idiv X dL_calls_518 (by decide) ?_
          refine z_bipush (v := 8) X dL_calls_519 (by decide) ?_
          refine z_irem X dL_calls_521 (by decide) ?_
          refine z_goto (tgt := 544) X dL_calls_522 (by decide) ?_
          refine zz.pick (lo' := [(0, .ref ob), (4, .ref (ar 0)), (5, .ref (ar 1)), (6, .ref (ar 2)), (7, .int (x1)), (8, .int (o5)), (9, .int (o8))]) [0, 4, 5, 6, 7, 8, 9] rfl ?_
          exact bl_calls_544 X Y hml hr ⟨by omega, by omega⟩ h
        · have h := zn q h
          refine z_iload X dL_calls_525 rfl ?_
          refine z_iload_n X dL_calls_527 rfl rfl ?_
          refine z_iconst (v := 3) X dL_calls_528 (by decide) ?_
          refine z_irem X dL_calls_529 (by decide) ?_
          refine z_iconst (v := 1) X dL_calls_530 (by decide) ?_
          refine z_icmp_ne (tgt := 538) X dL_calls_531 (by decide) (fun q => ?_) (fun q => ?_)
          · have h := zp q h
            refine z_iconst (v := 1) X dL_calls_534 (by decide) ?_
            refine z_goto (tgt := 540) X dL_calls_535 (by decide) ?_
            refine zz.pick (lo' := [(0, .ref ob), (4, .ref (ar 0)), (5, .ref (ar 1)), (6, .ref (ar 2)), (7, .int (x1)), (8, .int (o5)), (9, .int (o8))]) [0, 4, 5, 6, 7, 8, 9] rfl ?_
            exact bl_calls_540 X Y hml hr ⟨by omega, by omega⟩ h
          · have h := zn q h
            refine z_bipush (v := 7) X dL_calls_538 (by decide) ?_
            refine zz.pick (lo' := [(0, .ref ob), (4, .ref (ar 0)), (5, .ref (ar 1)), (6, .ref (ar 2)), (7, .int (x1)), (8, .int (o5)), (9, .int (o8))]) [0, 4, 5, 6, 7, 8, 9] rfl ?_
            exact bl_calls_540 X Y hml hr ⟨by omega, by omega⟩ h
theorem ll_calls (l : Launch) {D : va_G} {dA : Nat → ClassId} {A : Nat → Prop} {n : Nat} {ar : Nat → Nat} {ob b Ls : Nat} {sc : Nat → Int32} (hst : l.stackTraces = false) (hA : ∀ q, n ≤ q → A q) (hbA : ¬ A b) {σ : GS} {a1 : Int32} {a2 : Int32} {a3 : Int32} {o : GS × Int32} (h : fl_calls σ a1 a2 a3 = some o) : Met l yL_calls (.code yL_calls cL_calls 13 (some .boolean) :: gT) ({ frames := 16, cells := 27, slots := 13082, locals := 672 } : Room) (va_Pc [.ref ob, .int (a1), .int (a2), .int (a3), .ref (ar 0), .ref (ar 1), .ref (ar 2)] (zBL D dA A n b Ls sc (gw D dA A σ ob ar))) (va_Qi (fun r (_ : Unit) => r = o.2 ∧ True) (fun _ t => gw D dA A o.1 ob ar t.heap) A) (27) (13082) A :=
  z_metL (by decide) hA hbA hst (Nat.le_of_ble_eq_true rfl) rfl rfl (fun p e s m below meth c X Y hml hr => bl_calls X Y hml hr ⟨by omega, by omega⟩ h)
-- wallets(LMeshBiller;III[I)Z
def fl_wallets_34 (σ : GS) (v5 : Int32) (v6 : Int32) (s0 : Int32) (s1 : Int32) (s2 : Int32) : Option (GS × Int32) := if s2 = 0 then none else (some ((s0 + (s1 - s1 / s2 * s2)))).bind fun x2 => if 4 < 0 ∨ 5 ≤ (4).toNatClampNeg then none else (some ((σ.1, cs σ.2 2 (4).toNatClampNeg (((σ.2 2 (4).toNatClampNeg) + x2))) : GS)).bind fun σ3 => (dv_top σ3.1 (v5) (x2)).bind fun o5 => (some ((o5.1, σ3.2) : GS)).bind fun σ6 => (if o5.2 = (v6 + x2) then some (σ6, 1)
  else some (σ6, 0))
set_option maxRecDepth 100000 in
set_option maxHeartbeats 4000000 in
theorem bl_wallets_34 {p : Program} {l : Launch} {e : Env} {s : State} {m : MethodId} {args : Array Value} {below : List Frame} {meth : Method} {c : Code} {D : va_G} {dA : Nat → ClassId} {A : Nat → Prop} {ar : Nat → Nat} {ob b Ls : Nat} {sc : Nat → Int32} {o : GS × Int32} (X : zc p l s m args meth c cL_wallets RL D dA A) (Y : zY s A b Ls sc) (hml : c.maxLocals = 10) (hr : meth.sig.returnType = (some .boolean)) {cells slots : Nat} (hcs : cells + (2) ≤ 4 ∧ slots + (12) ≤ 3030) {σ : GS} {v5 : Int32} {v6 : Int32} {s0 : Int32} {s1 : Int32} {s2 : Int32} (h : fl_wallets_34 σ v5 v6 s0 s1 s2 = some o) : zz p l e ({ frames := 16, cells := 4, slots := 3030, locals := 672 } : Room) s m args below meth c A (gw D dA A σ ob ar) cells slots (MQ below (va_Qi (fun r (_ : Unit) => r = o.2 ∧ True) (fun _ t => gw D dA A o.1 ob ar t.heap) A) args s (4) (3030) A) 34 [(0, .ref ob), (4, .ref (ar 2)), (5, .int (v5)), (6, .int (v6))] [] [.int (s2), .int (s1), .int (s0)] := by
  obtain ⟨hcs1, hcs2⟩ := hcs
  unfold fl_wallets_34 at h
  obtain ⟨q1, h⟩ := zg h
  refine z_irem X dL_wallets_34 q1 ?_
  refine z_iadd X dL_wallets_35 ?_
  obtain ⟨x2, ex2, h⟩ := zb h
  rw [ex2]
  refine z_istore (lo' := [(7, .int (x2)), (0, .ref ob), (4, .ref (ar 2)), (5, .int (v5)), (6, .int (v6))]) X dL_wallets_36 (by rw [hml]; decide) rfl rfl ?_
  refine z_aload X dL_wallets_38 rfl ?_
  refine z_iconst (v := 4) X dL_wallets_40 (by decide) ?_
  refine z_dup2 X dL_wallets_41 rfl rfl ?_
  refine l_ald X 2 rfl (by decide) dL_wallets_42 ?_
  refine z_iload X dL_wallets_43 rfl ?_
  refine z_iadd X dL_wallets_45 ?_
  obtain ⟨q4, h⟩ := zg h
  obtain ⟨σ3, eσ3, h⟩ := zb h
  refine l_ast X 2 rfl q4 eσ3 dL_wallets_46 ?_
  refine z_aload_n X dL_wallets_47 rfl rfl ?_
  refine z_iload X dL_wallets_48 rfl ?_
  refine z_iload X dL_wallets_50 rfl ?_
  obtain ⟨o5, co5, h⟩ := zb2 h
  obtain ⟨σ6, eσ6, h⟩ := zb h
  obtain ⟨u7, ko5, jo5⟩ := vo_eq co5
  refine l_v (As := [.int (v5), .int (x2)]) (rest := []) (nA := 2) (mc := 2) (ms := 12) (rm := ({ frames := 7, cells := 2, slots := 12, locals := 294 } : Room)) (o := u7) X (fun _ h11 => cc_top l X.2.2.2.2.2.2.2.2 X.2.2.2.2.2.2.1 h11 ko5) n_805 n_806 n_807 n_1 n_808 nh_yX11_top ⟨rfl, rfl, Nat.le_of_ble_eq_true rfl, Nat.le_of_ble_eq_true rfl⟩ rfl rfl (Nat.le_of_ble_eq_true rfl) dL_wallets_52 ⟨by show _ ≤ 4; omega, by show _ ≤ 3030; omega⟩ ?_
  rw [show ((u7.1, σ3.1.2), σ3.2) = ((o5.1, σ3.2) : GS) by rw [jo5], show u7.2 = o5.2 by rw [jo5], eσ6]
  refine z_iload X dL_wallets_55 rfl ?_
  refine z_iload X dL_wallets_57 rfl ?_
  refine z_iadd X dL_wallets_59 ?_
  refine z_icmp_ne (tgt := 67) X dL_wallets_60 (by decide) (fun q => ?_) (fun q => ?_)
  · have h := zp q h
    refine z_iconst (v := 1) X dL_wallets_63 (by decide) ?_
    refine z_goto (tgt := 68) X dL_wallets_64 (by decide) ?_
    obtain rfl := Option.some.inj h
    refine zz.widen (k := 4) (n := 3030) (by omega) (by omega) ?_
    exact z_iret X hr rfl (fun t hG hF _ => ⟨⟨_, (), rfl, ⟨rfl, trivial⟩, hG⟩, hF⟩) dL_wallets_68
  · have h := zn q h
    refine z_iconst (v := 0) X dL_wallets_67 (by decide) ?_
    obtain rfl := Option.some.inj h
    refine zz.widen (k := 4) (n := 3030) (by omega) (by omega) ?_
    exact z_iret X hr rfl (fun t hG hF _ => ⟨⟨_, (), rfl, ⟨rfl, trivial⟩, hG⟩, hF⟩) dL_wallets_68
def fl_wallets_228 (σ : GS) (v5 : Int32) (v6 : Int32) (v9 : Int32) : Option (GS × Int32) := (if v9 = (-108) then (aq_free σ.1 (v5)).bind fun o1 => (if o1 = v6 then some (σ, 1)
  else some (σ, 0))
  else some (σ, 0))
set_option maxRecDepth 100000 in
set_option maxHeartbeats 4000000 in
theorem bl_wallets_228 {p : Program} {l : Launch} {e : Env} {s : State} {m : MethodId} {args : Array Value} {below : List Frame} {meth : Method} {c : Code} {D : va_G} {dA : Nat → ClassId} {A : Nat → Prop} {ar : Nat → Nat} {ob b Ls : Nat} {sc : Nat → Int32} {o : GS × Int32} (X : zc p l s m args meth c cL_wallets RL D dA A) (Y : zY s A b Ls sc) (hml : c.maxLocals = 10) (hr : meth.sig.returnType = (some .boolean)) {cells slots : Nat} (hcs : cells + (0) ≤ 4 ∧ slots + (0) ≤ 3030) {σ : GS} {v5 : Int32} {v6 : Int32} {v9 : Int32} (h : fl_wallets_228 σ v5 v6 v9 = some o) : zz p l e ({ frames := 16, cells := 4, slots := 3030, locals := 672 } : Room) s m args below meth c A (gw D dA A σ ob ar) cells slots (MQ below (va_Qi (fun r (_ : Unit) => r = o.2 ∧ True) (fun _ t => gw D dA A o.1 ob ar t.heap) A) args s (4) (3030) A) 228 [(0, .ref ob), (5, .int (v5)), (6, .int (v6)), (9, .int (v9))] [] [] := by
  obtain ⟨hcs1, hcs2⟩ := hcs
  unfold fl_wallets_228 at h
  refine z_iload X dL_wallets_228 rfl ?_
  refine z_bipush (v := (-108)) X dL_wallets_230 (by decide) ?_
  refine z_icmp_ne (tgt := 250) X dL_wallets_232 (by decide) (fun q => ?_) (fun q => ?_)
  · have h := zp q h
    refine z_aload_n X dL_wallets_235 rfl rfl ?_
    refine z_iload X dL_wallets_236 rfl ?_
    obtain ⟨o1, co1, h⟩ := zb2 h
    refine l_q (As := [.int (v5)]) (rest := []) (nA := 1) (mc := 0) (ms := 0) (rm := ({ frames := 7, cells := 0, slots := 0, locals := 294 } : Room)) (r0 := o1) X (fun _ h11 => cz_free l X.2.2.2.2.2.2.2.2 X.2.2.2.2.2.2.1 h11 (fun _ z => nomatch z) (qo_eq co1)) n_801 n_802 n_803 n_1 n_804 nh_yX11_free ⟨rfl, rfl, Nat.le_of_ble_eq_true rfl, Nat.le_of_ble_eq_true rfl⟩ rfl rfl (Nat.le_of_ble_eq_true rfl) dL_wallets_238 ⟨by show _ ≤ 4; omega, by show _ ≤ 3030; omega⟩ ?_
    refine z_iload X dL_wallets_241 rfl ?_
    refine z_icmp_ne (tgt := 250) X dL_wallets_243 (by decide) (fun q => ?_) (fun q => ?_)
    · have h := zp q h
      refine z_iconst (v := 1) X dL_wallets_246 (by decide) ?_
      refine z_goto (tgt := 251) X dL_wallets_247 (by decide) ?_
      obtain rfl := Option.some.inj h
      refine zz.widen (k := 4) (n := 3030) (by omega) (by omega) ?_
      exact z_iret X hr rfl (fun t hG hF _ => ⟨⟨_, (), rfl, ⟨rfl, trivial⟩, hG⟩, hF⟩) dL_wallets_251
    · have h := zn q h
      refine z_iconst (v := 0) X dL_wallets_250 (by decide) ?_
      obtain rfl := Option.some.inj h
      refine zz.widen (k := 4) (n := 3030) (by omega) (by omega) ?_
      exact z_iret X hr rfl (fun t hG hF _ => ⟨⟨_, (), rfl, ⟨rfl, trivial⟩, hG⟩, hF⟩) dL_wallets_251
  · have h := zn q h
    refine z_iconst (v := 0) X dL_wallets_250 (by decide) ?_
    obtain rfl := Option.some.inj h
    refine zz.widen (k := 4) (n := 3030) (by omega) (by omega) ?_
    exact z_iret X hr rfl (fun t hG hF _ => ⟨⟨_, (), rfl, ⟨rfl, trivial⟩, hG⟩, hF⟩) dL_wallets_251
def fl_wallets_165 (σ : GS) (v2 : Int32) (v3 : Int32) (v5 : Int32) (v6 : Int32) (s0 : Int32) : Option (GS × Int32) := (some ((1 + ((v2 / 4) - (v2 / 4) / 60 * 60)))).bind fun x1 => (ak_buy σ.1 (v5) ((1 + ((v3 / 900) - (v3 / 900) / 7 * 7))) (x1) ((1 + ((v2 / 240) - (v2 / 240) / 3 * 3))) ((v3 - v3 / 10 * 10)) (s0)).bind fun o2 => (some ((o2.1, σ.2) : GS)).bind fun σ3 => (some (o2.2)).bind fun x4 => (if v6 < s0 then fl_wallets_228 σ3 v5 v6 x4
  else (if (σ3.2 2 (3).toNatClampNeg) = 40 then fl_wallets_228 σ3 v5 v6 x4
  else if 3 < 0 ∨ 5 ≤ (3).toNatClampNeg then none else (some ((σ3.1, cs σ3.2 2 (3).toNatClampNeg (((σ3.2 2 (3).toNatClampNeg) + 1))) : GS)).bind fun σ5 => if 4 < 0 ∨ 5 ≤ (4).toNatClampNeg then none else (some ((σ5.1, cs σ5.2 2 (4).toNatClampNeg (((σ5.2 2 (4).toNatClampNeg) - s0))) : GS)).bind fun σ7 => (if x4 = ((σ7.2 2 (3).toNatClampNeg) - 1) then (aq_left σ7.1 (x4)).bind fun o9 => (if o9 = x1 then (aq_free σ7.1 (v5)).bind fun o10 => (if o10 = (v6 - s0) then some (σ7, 1)
  else some (σ7, 0))
  else some (σ7, 0))
  else some (σ7, 0))))
set_option maxRecDepth 100000 in
set_option maxHeartbeats 4000000 in
theorem bl_wallets_165 {p : Program} {l : Launch} {e : Env} {s : State} {m : MethodId} {args : Array Value} {below : List Frame} {meth : Method} {c : Code} {D : va_G} {dA : Nat → ClassId} {A : Nat → Prop} {ar : Nat → Nat} {ob b Ls : Nat} {sc : Nat → Int32} {o : GS × Int32} (X : zc p l s m args meth c cL_wallets RL D dA A) (Y : zY s A b Ls sc) (hml : c.maxLocals = 10) (hr : meth.sig.returnType = (some .boolean)) {cells slots : Nat} (hcs : cells + (4) ≤ 4 ∧ slots + (3030) ≤ 3030) {σ : GS} {v2 : Int32} {v3 : Int32} {v5 : Int32} {v6 : Int32} {s0 : Int32} (h : fl_wallets_165 σ v2 v3 v5 v6 s0 = some o) : zz p l e ({ frames := 16, cells := 4, slots := 3030, locals := 672 } : Room) s m args below meth c A (gw D dA A σ ob ar) cells slots (MQ below (va_Qi (fun r (_ : Unit) => r = o.2 ∧ True) (fun _ t => gw D dA A o.1 ob ar t.heap) A) args s (4) (3030) A) 165 [(0, .ref ob), (2, .int (v2)), (3, .int (v3)), (4, .ref (ar 2)), (5, .int (v5)), (6, .int (v6))] [] [.int (s0)] := by
  obtain ⟨hcs1, hcs2⟩ := hcs
  unfold fl_wallets_165 at h
  refine z_istore (lo' := [(7, .int (s0)), (0, .ref ob), (2, .int (v2)), (3, .int (v3)), (4, .ref (ar 2)), (5, .int (v5)), (6, .int (v6))]) X dL_wallets_165 (by rw [hml]; decide) rfl rfl ?_
  refine z_iconst (v := 1) X dL_wallets_167 (by decide) ?_
  refine z_iload_n X dL_wallets_168 rfl rfl ?_
  refine z_iconst (v := 4) X dL_wallets_169 (by decide) ?_
  refine z_idiv X dL_wallets_170 (by decide) ?_
  refine z_bipush (v := 60) X dL_wallets_171 (by decide) ?_
  refine z_irem X dL_wallets_173 (by decide) ?_
  refine z_iadd X dL_wallets_174 ?_
  obtain ⟨x1, ex1, h⟩ := zb h
  rw [ex1]
  refine z_istore (lo' := [(8, .int (x1)), (7, .int (s0)), (0, .ref ob), (2, .int (v2)), (3, .int (v3)), (4, .ref (ar 2)), (5, .int (v5)), (6, .int (v6))]) X dL_wallets_175 (by rw [hml]; decide) rfl rfl ?_
  refine z_aload_n X dL_wallets_177 rfl rfl ?_
  refine z_iload X dL_wallets_178 rfl ?_
  refine z_iconst (v := 1) X dL_wallets_180 (by decide) ?_
  refine z_iload_n X dL_wallets_181 rfl rfl ?_
  refine z_sipush (v := 900) X dL_wallets_182 (by decide) ?_
  refine z_idiv X dL_wallets_185 (by decide) ?_
  refine z_bipush (v := 7) X dL_wallets_186 (by decide) ?_
  refine z_irem X dL_wallets_188 (by decide) ?_
  refine z_iadd X dL_wallets_189 ?_
  refine z_iload X dL_wallets_190 rfl ?_
  refine z_iconst (v := 1) X dL_wallets_192 (by decide) ?_
  refine z_iload_n X dL_wallets_193 rfl rfl ?_
  refine z_sipush (v := 240) X dL_wallets_194 (by decide) ?_
  refine z_idiv X dL_wallets_197 (by decide) ?_
  refine z_iconst (v := 3) X dL_wallets_198 (by decide) ?_
  refine z_irem X dL_wallets_199 (by decide) ?_
  refine z_iadd X dL_wallets_200 ?_
  refine z_iload_n X dL_wallets_201 rfl rfl ?_
  refine z_bipush (v := 10) X dL_wallets_202 (by decide) ?_
  refine z_irem X dL_wallets_204 (by decide) ?_
  refine z_iload X dL_wallets_205 rfl ?_
  obtain ⟨o2, co2, h⟩ := zb2 h
  obtain ⟨σ3, eσ3, h⟩ := zb h
  refine z_callWi (As := [.ref ob, .int (v5), .int ((1 + ((v3 / 900) - (v3 / 900) / 7 * 7))), .int (x1), .int ((1 + ((v2 / 240) - (v2 / 240) / 3 * 3))), .int ((v3 - v3 / 10 * 10)), .int (s0)]) (rest := []) (nA := 7) (mc := 4) (ms := 3030) (rm := ({ frames := 15, cells := 4, slots := 3030, locals := 630 } : Room)) (S := Unit) (post := fun r _ => r = o2.2 ∧ True) (G1 := fun _ => gw D dA A (o2.1, σ.2) ob ar) X Y.1 (la_buy l X.2.2.2.2.2.2.2.2 X.2.2.2.2.2.2.1 co2) n_810 n_811 n_0 n_812 nh_yL_buys ⟨rfl, rfl, Nat.le_of_ble_eq_true rfl, Nat.le_of_ble_eq_true rfl⟩ rfl rfl (Nat.le_of_ble_eq_true rfl) dL_wallets_207 ⟨by show _ ≤ 4; omega, by show _ ≤ 3030; omega⟩ (fun r9 _ hr9 => ?_)
  obtain ⟨rfl, -⟩ := hr9
  rw [eσ3]
  obtain ⟨x4, ex4, h⟩ := zb h
  rw [ex4]
  refine z_istore (lo' := [(9, .int (x4)), (8, .int (x1)), (7, .int (s0)), (0, .ref ob), (2, .int (v2)), (3, .int (v3)), (4, .ref (ar 2)), (5, .int (v5)), (6, .int (v6))]) X dL_wallets_210 (by rw [hml]; decide) rfl rfl ?_
  refine z_iload X dL_wallets_212 rfl ?_
  refine z_iload X dL_wallets_214 rfl ?_
  refine z_icmp_lt (tgt := 228) X dL_wallets_216 (by decide) (fun q => ?_) (fun q => ?_)
  · have h := zp q h
    refine zz.pick (lo' := [(0, .ref ob), (5, .int (v5)), (6, .int (v6)), (9, .int (x4))]) [0, 5, 6, 9] rfl ?_
    exact bl_wallets_228 X Y hml hr ⟨by omega, by omega⟩ h
  · have h := zn q h
    refine z_aload X dL_wallets_219 rfl ?_
    refine z_iconst (v := 3) X dL_wallets_221 (by decide) ?_
    refine l_ald X 2 rfl (by decide) dL_wallets_222 ?_
    refine z_bipush (v := 40) X dL_wallets_223 (by decide) ?_
    refine z_icmp_ne (tgt := 252) X dL_wallets_225 (by decide) (fun q => ?_) (fun q => ?_)
    · have h := zp q h
      refine zz.pick (lo' := [(0, .ref ob), (5, .int (v5)), (6, .int (v6)), (9, .int (x4))]) [0, 5, 6, 9] rfl ?_
      exact bl_wallets_228 X Y hml hr ⟨by omega, by omega⟩ h
    · have h := zn q h
      refine z_aload X dL_wallets_252 rfl ?_
      refine z_iconst (v := 3) X dL_wallets_254 (by decide) ?_
      refine z_dup2 X dL_wallets_255 rfl rfl ?_
      refine l_ald X 2 rfl (by decide) dL_wallets_256 ?_
      refine z_iconst (v := 1) X dL_wallets_257 (by decide) ?_
      refine z_iadd X dL_wallets_258 ?_
      obtain ⟨q6, h⟩ := zg h
      obtain ⟨σ5, eσ5, h⟩ := zb h
      refine l_ast X 2 rfl q6 eσ5 dL_wallets_259 ?_
      refine z_aload X dL_wallets_260 rfl ?_
      refine z_iconst (v := 4) X dL_wallets_262 (by decide) ?_
      refine z_dup2 X dL_wallets_263 rfl rfl ?_
      refine l_ald X 2 rfl (by decide) dL_wallets_264 ?_
      refine z_iload X dL_wallets_265 rfl ?_
      refine z_isub X dL_wallets_267 ?_
      obtain ⟨q8, h⟩ := zg h
      obtain ⟨σ7, eσ7, h⟩ := zb h
      refine l_ast X 2 rfl q8 eσ7 dL_wallets_268 ?_
      refine z_iload X dL_wallets_269 rfl ?_
      refine z_aload X dL_wallets_271 rfl ?_
      refine z_iconst (v := 3) X dL_wallets_273 (by decide) ?_
      refine l_ald X 2 rfl (by decide) dL_wallets_274 ?_
      refine z_iconst (v := 1) X dL_wallets_275 (by decide) ?_
      refine z_isub X dL_wallets_276 ?_
      refine z_icmp_ne (tgt := 309) X dL_wallets_277 (by decide) (fun q => ?_) (fun q => ?_)
      · have h := zp q h
        refine z_aload_n X dL_wallets_280 rfl rfl ?_
        refine z_iload X dL_wallets_281 rfl ?_
        obtain ⟨o9, co9, h⟩ := zb2 h
        refine l_q (As := [.int (x4)]) (rest := []) (nA := 1) (mc := 0) (ms := 0) (rm := ({ frames := 9, cells := 0, slots := 0, locals := 378 } : Room)) (r0 := o9) X (fun _ h11 => cz_left l X.2.2.2.2.2.2.2.2 X.2.2.2.2.2.2.1 h11 (fun _ z => nomatch z) (qo_eq co9)) n_858 n_859 n_860 n_1 n_861 nh_yX11_left ⟨rfl, rfl, Nat.le_of_ble_eq_true rfl, Nat.le_of_ble_eq_true rfl⟩ rfl rfl (Nat.le_of_ble_eq_true rfl) dL_wallets_283 ⟨by show _ ≤ 4; omega, by show _ ≤ 3030; omega⟩ ?_
        refine z_iload X dL_wallets_286 rfl ?_
        refine z_icmp_ne (tgt := 309) X dL_wallets_288 (by decide) (fun q => ?_) (fun q => ?_)
        · have h := zp q h
          refine z_aload_n X dL_wallets_291 rfl rfl ?_
          refine z_iload X dL_wallets_292 rfl ?_
          obtain ⟨o10, co10, h⟩ := zb2 h
          refine l_q (As := [.int (v5)]) (rest := []) (nA := 1) (mc := 0) (ms := 0) (rm := ({ frames := 7, cells := 0, slots := 0, locals := 294 } : Room)) (r0 := o10) X (fun _ h11 => cz_free l X.2.2.2.2.2.2.2.2 X.2.2.2.2.2.2.1 h11 (fun _ z => nomatch z) (qo_eq co10)) n_801 n_802 n_803 n_1 n_804 nh_yX11_free ⟨rfl, rfl, Nat.le_of_ble_eq_true rfl, Nat.le_of_ble_eq_true rfl⟩ rfl rfl (Nat.le_of_ble_eq_true rfl) dL_wallets_294 ⟨by show _ ≤ 4; omega, by show _ ≤ 3030; omega⟩ ?_
          refine z_iload X dL_wallets_297 rfl ?_
          refine z_iload X dL_wallets_299 rfl ?_
          refine z_isub X dL_wallets_301 ?_
          refine z_icmp_ne (tgt := 309) X dL_wallets_302 (by decide) (fun q => ?_) (fun q => ?_)
          · have h := zp q h
            refine z_iconst (v := 1) X dL_wallets_305 (by decide) ?_
            refine z_goto (tgt := 310) X dL_wallets_306 (by decide) ?_
            obtain rfl := Option.some.inj h
            refine zz.widen (k := 4) (n := 3030) (by omega) (by omega) ?_
            exact z_iret X hr rfl (fun t hG hF _ => ⟨⟨_, (), rfl, ⟨rfl, trivial⟩, hG⟩, hF⟩) dL_wallets_310
          · have h := zn q h
            refine z_iconst (v := 0) X dL_wallets_309 (by decide) ?_
            obtain rfl := Option.some.inj h
            refine zz.widen (k := 4) (n := 3030) (by omega) (by omega) ?_
            exact z_iret X hr rfl (fun t hG hF _ => ⟨⟨_, (), rfl, ⟨rfl, trivial⟩, hG⟩, hF⟩) dL_wallets_310
        · have h := zn q h
          refine z_iconst (v := 0) X dL_wallets_309 (by decide) ?_
          obtain rfl := Option.some.inj h
          refine zz.widen (k := 4) (n := 3030) (by omega) (by omega) ?_
          exact z_iret X hr rfl (fun t hG hF _ => ⟨⟨_, (), rfl, ⟨rfl, trivial⟩, hG⟩, hF⟩) dL_wallets_310
      · have h := zn q h
        refine z_iconst (v := 0) X dL_wallets_309 (by decide) ?_
        obtain rfl := Option.some.inj h
        refine zz.widen (k := 4) (n := 3030) (by omega) (by omega) ?_
        exact z_iret X hr rfl (fun t hG hF _ => ⟨⟨_, (), rfl, ⟨rfl, trivial⟩, hG⟩, hF⟩) dL_wallets_310
def fl_wallets (σ : GS) (a1 : Int32) (a2 : Int32) (a3 : Int32) : Option (GS × Int32) := (some ((a2 - a2 / 4 * 4))).bind fun x1 => (aq_free σ.1 (x1)).bind fun o2 => (if a1 = 0 then (if (a3 - a3 / 4 * 4) = 0 then fl_wallets_34 σ x1 o2 1 a3 20000
  else fl_wallets_34 σ x1 o2 1 a3 900)
  else (if a1 = 1 then (some ((a3 - a3 / 4 * 4))).bind fun x3 => (some ((1 + ((a3 / 4) - (a3 / 4) / 500 * 500)))).bind fun x4 => (ak_give σ.1 (x1) (x3) (x4)).bind fun o5 => (some ((o5.1, σ.2) : GS)).bind fun σ6 => (some (o5.2)).bind fun x7 => (if x1 = x3 then (if x7 = (-109) then some (σ6, 1)
  else some (σ6, 0))
  else (if x4 ≤ o2 then (if x7 = (o2 - x4) then some (σ6, 1)
  else some (σ6, 0))
  else (if x7 = (-108) then some (σ6, 1)
  else some (σ6, 0))))
  else (if (a3 - a3 / 3 * 3) = 0 then fl_wallets_165 σ a2 a3 x1 o2 ((a3 / 3) - (a3 / 3) / 300 * 300)
  else fl_wallets_165 σ a2 a3 x1 o2 ((a3 / 3) - (a3 / 3) / 20 * 20))))
set_option maxRecDepth 100000 in
set_option maxHeartbeats 4000000 in
theorem bl_wallets {p : Program} {l : Launch} {e : Env} {s : State} {m : MethodId} {args : Array Value} {below : List Frame} {meth : Method} {c : Code} {D : va_G} {dA : Nat → ClassId} {A : Nat → Prop} {ar : Nat → Nat} {ob b Ls : Nat} {sc : Nat → Int32} {o : GS × Int32} (X : zc p l s m args meth c cL_wallets RL D dA A) (Y : zY s A b Ls sc) (hml : c.maxLocals = 10) (hr : meth.sig.returnType = (some .boolean)) {cells slots : Nat} (hcs : cells + (4) ≤ 4 ∧ slots + (3030) ≤ 3030) {σ : GS} {a1 : Int32} {a2 : Int32} {a3 : Int32} (h : fl_wallets σ a1 a2 a3 = some o) : zz p l e ({ frames := 16, cells := 4, slots := 3030, locals := 672 } : Room) s m args below meth c A (gw D dA A σ ob ar) cells slots (MQ below (va_Qi (fun r (_ : Unit) => r = o.2 ∧ True) (fun _ t => gw D dA A o.1 ob ar t.heap) A) args s (4) (3030) A) 0 [(0, .ref ob), (1, .int (a1)), (2, .int (a2)), (3, .int (a3)), (4, .ref (ar 2))] [] [] := by
  obtain ⟨hcs1, hcs2⟩ := hcs
  unfold fl_wallets at h
  refine z_iload_n X dL_wallets_0 rfl rfl ?_
  refine z_iconst (v := 4) X dL_wallets_1 (by decide) ?_
  refine z_irem X dL_wallets_2 (by decide) ?_
  obtain ⟨x1, ex1, h⟩ := zb h
  rw [ex1]
  refine z_istore (lo' := [(5, .int (x1)), (0, .ref ob), (1, .int (a1)), (2, .int (a2)), (3, .int (a3)), (4, .ref (ar 2))]) X dL_wallets_3 (by rw [hml]; decide) rfl rfl ?_
  refine z_aload_n X dL_wallets_5 rfl rfl ?_
  refine z_iload X dL_wallets_6 rfl ?_
  obtain ⟨o2, co2, h⟩ := zb2 h
  refine l_q (As := [.int (x1)]) (rest := []) (nA := 1) (mc := 0) (ms := 0) (rm := ({ frames := 7, cells := 0, slots := 0, locals := 294 } : Room)) (r0 := o2) X (fun _ h11 => cz_free l X.2.2.2.2.2.2.2.2 X.2.2.2.2.2.2.1 h11 (fun _ z => nomatch z) (qo_eq co2)) n_801 n_802 n_803 n_1 n_804 nh_yX11_free ⟨rfl, rfl, Nat.le_of_ble_eq_true rfl, Nat.le_of_ble_eq_true rfl⟩ rfl rfl (Nat.le_of_ble_eq_true rfl) dL_wallets_8 ⟨by show _ ≤ 4; omega, by show _ ≤ 3030; omega⟩ ?_
  refine z_istore (lo' := [(6, .int (o2)), (5, .int (x1)), (0, .ref ob), (1, .int (a1)), (2, .int (a2)), (3, .int (a3)), (4, .ref (ar 2))]) X dL_wallets_11 (by rw [hml]; decide) rfl rfl ?_
  refine z_iload_n X dL_wallets_13 rfl rfl ?_
  refine z_if_ne (tgt := 69) X dL_wallets_14 (by decide) (fun q => ?_) (fun q => ?_)
  · have h := zp q h
    refine z_iconst (v := 1) X dL_wallets_17 (by decide) ?_
    refine z_iload_n X dL_wallets_18 rfl rfl ?_
    refine z_iload_n X dL_wallets_19 rfl rfl ?_
    refine z_iconst (v := 4) X dL_wallets_20 (by decide) ?_
    refine z_irem X dL_wallets_21 (by decide) ?_
    refine z_if_ne (tgt := 31) X dL_wallets_22 (by decide) (fun q => ?_) (fun q => ?_)
    · have h := zp q h
      refine z_sipush (v := 20000) X dL_wallets_25 (by decide) ?_
      refine z_goto (tgt := 34) X dL_wallets_28 (by decide) ?_
      refine zz.pick (lo' := [(0, .ref ob), (4, .ref (ar 2)), (5, .int (x1)), (6, .int (o2))]) [0, 4, 5, 6] rfl ?_
      exact bl_wallets_34 X Y hml hr ⟨by omega, by omega⟩ h
    · have h := zn q h
      refine z_sipush (v := 900) X dL_wallets_31 (by decide) ?_
      refine zz.pick (lo' := [(0, .ref ob), (4, .ref (ar 2)), (5, .int (x1)), (6, .int (o2))]) [0, 4, 5, 6] rfl ?_
      exact bl_wallets_34 X Y hml hr ⟨by omega, by omega⟩ h
  · have h := zn q h
    refine z_iload_n X dL_wallets_69 rfl rfl ?_
    refine z_iconst (v := 1) X dL_wallets_70 (by decide) ?_
    refine z_icmp_ne (tgt := 143) X dL_wallets_71 (by decide) (fun q => ?_) (fun q => ?_)
    · have h := zp q h
      refine z_iload_n X dL_wallets_74 rfl rfl ?_
      refine z_iconst (v := 4) X dL_wallets_75 (by decide) ?_
      refine z_irem X dL_wallets_76 (by decide) ?_
      obtain ⟨x3, ex3, h⟩ := zb h
      rw [ex3]
      refine z_istore (lo' := [(7, .int (x3)), (6, .int (o2)), (5, .int (x1)), (0, .ref ob), (1, .int (a1)), (2, .int (a2)), (3, .int (a3)), (4, .ref (ar 2))]) X dL_wallets_77 (by rw [hml]; decide) rfl rfl ?_
      refine z_iconst (v := 1) X dL_wallets_79 (by decide) ?_
      refine z_iload_n X dL_wallets_80 rfl rfl ?_
      refine z_iconst (v := 4) X dL_wallets_81 (by decide) ?_
      refine z_idiv X dL_wallets_82 (by decide) ?_
      refine z_sipush (v := 500) X dL_wallets_83 (by decide) ?_
      refine z_irem X dL_wallets_86 (by decide) ?_
      refine z_iadd X dL_wallets_87 ?_
      obtain ⟨x4, ex4, h⟩ := zb h
      rw [ex4]
      refine z_istore (lo' := [(8, .int (x4)), (7, .int (x3)), (6, .int (o2)), (5, .int (x1)), (0, .ref ob), (1, .int (a1)), (2, .int (a2)), (3, .int (a3)), (4, .ref (ar 2))]) X dL_wallets_88 (by rw [hml]; decide) rfl rfl ?_
      refine z_aload_n X dL_wallets_90 rfl rfl ?_
      refine z_iconst (v := 3) X dL_wallets_91 (by decide) ?_
      refine z_iload X dL_wallets_92 rfl ?_
      refine z_iload X dL_wallets_94 rfl ?_
      refine z_iload X dL_wallets_96 rfl ?_
      obtain ⟨o5, co5, h⟩ := zb2 h
      obtain ⟨σ6, eσ6, h⟩ := zb h
      refine z_callWi (As := [.ref ob, .int (3), .int (x1), .int (x3), .int (x4)]) (rest := []) (nA := 5) (mc := 3) (ms := 18) (rm := ({ frames := 15, cells := 3, slots := 18, locals := 630 } : Room)) (S := Unit) (post := fun r _ => r = o5.2 ∧ True) (G1 := fun _ => gw D dA A (o5.1, σ.2) ob ar) X Y.1 (la_give l X.2.2.2.2.2.2.2.2 X.2.2.2.2.2.2.1 co5) n_390 n_391 n_0 n_392 nh_yL_asks ⟨rfl, rfl, Nat.le_of_ble_eq_true rfl, Nat.le_of_ble_eq_true rfl⟩ rfl rfl (Nat.le_of_ble_eq_true rfl) dL_wallets_98 ⟨by show _ ≤ 4; omega, by show _ ≤ 3030; omega⟩ (fun r9 _ hr9 => ?_)
      obtain ⟨rfl, -⟩ := hr9
      rw [eσ6]
      obtain ⟨x7, ex7, h⟩ := zb h
      rw [ex7]
      refine z_istore (lo' := [(9, .int (x7)), (8, .int (x4)), (7, .int (x3)), (6, .int (o2)), (5, .int (x1)), (0, .ref ob), (1, .int (a1)), (2, .int (a2)), (3, .int (a3)), (4, .ref (ar 2))]) X dL_wallets_101 (by rw [hml]; decide) rfl rfl ?_
      refine z_iload X dL_wallets_103 rfl ?_
      refine z_iload X dL_wallets_105 rfl ?_
      refine z_iload X dL_wallets_107 rfl ?_
      refine z_icmp_ne (tgt := 117) X dL_wallets_109 (by decide) (fun q => ?_) (fun q => ?_)
      · have h := zp q h
        refine z_bipush (v := (-109)) X dL_wallets_112 (by decide) ?_
        refine z_goto (tgt := 134) X dL_wallets_114 (by decide) ?_
        refine z_icmp_ne (tgt := 141) X dL_wallets_134 (by decide) (fun q => ?_) (fun q => ?_)
        · have h := zp q h
          refine z_iconst (v := 1) X dL_wallets_137 (by decide) ?_
          refine z_goto (tgt := 142) X dL_wallets_138 (by decide) ?_
          obtain rfl := Option.some.inj h
          refine zz.widen (k := 4) (n := 3030) (by omega) (by omega) ?_
          exact z_iret X hr rfl (fun t hG hF _ => ⟨⟨_, (), rfl, ⟨rfl, trivial⟩, hG⟩, hF⟩) dL_wallets_142
        · have h := zn q h
          refine z_iconst (v := 0) X dL_wallets_141 (by decide) ?_
          obtain rfl := Option.some.inj h
          refine zz.widen (k := 4) (n := 3030) (by omega) (by omega) ?_
          exact z_iret X hr rfl (fun t hG hF _ => ⟨⟨_, (), rfl, ⟨rfl, trivial⟩, hG⟩, hF⟩) dL_wallets_142
      · have h := zn q h
        refine z_iload X dL_wallets_117 rfl ?_
        refine z_iload X dL_wallets_119 rfl ?_
        refine z_icmp_ge (tgt := 129) X dL_wallets_121 (by decide) (fun q => ?_) (fun q => ?_)
        · have h := zp q h
          refine z_iload X dL_wallets_129 rfl ?_
          refine z_iload X dL_wallets_131 rfl ?_
          refine z_isub X dL_wallets_133 ?_
          refine z_icmp_ne (tgt := 141) X dL_wallets_134 (by decide) (fun q => ?_) (fun q => ?_)
          · have h := zp q h
            refine z_iconst (v := 1) X dL_wallets_137 (by decide) ?_
            refine z_goto (tgt := 142) X dL_wallets_138 (by decide) ?_
            obtain rfl := Option.some.inj h
            refine zz.widen (k := 4) (n := 3030) (by omega) (by omega) ?_
            exact z_iret X hr rfl (fun t hG hF _ => ⟨⟨_, (), rfl, ⟨rfl, trivial⟩, hG⟩, hF⟩) dL_wallets_142
          · have h := zn q h
            refine z_iconst (v := 0) X dL_wallets_141 (by decide) ?_
            obtain rfl := Option.some.inj h
            refine zz.widen (k := 4) (n := 3030) (by omega) (by omega) ?_
            exact z_iret X hr rfl (fun t hG hF _ => ⟨⟨_, (), rfl, ⟨rfl, trivial⟩, hG⟩, hF⟩) dL_wallets_142
        · have h := zn q h
          refine z_bipush (v := (-108)) X dL_wallets_124 (by decide) ?_
          refine z_goto (tgt := 134) X dL_wallets_126 (by decide) ?_
          refine z_icmp_ne (tgt := 141) X dL_wallets_134 (by decide) (fun q => ?_) (fun q => ?_)
          · have h := zp q h
            refine z_iconst (v := 1) X dL_wallets_137 (by decide) ?_
            refine z_goto (tgt := 142) X dL_wallets_138 (by decide) ?_
            obtain rfl := Option.some.inj h
            refine zz.widen (k := 4) (n := 3030) (by omega) (by omega) ?_
            exact z_iret X hr rfl (fun t hG hF _ => ⟨⟨_, (), rfl, ⟨rfl, trivial⟩, hG⟩, hF⟩) dL_wallets_142
          · have h := zn q h
            refine z_iconst (v := 0) X dL_wallets_141 (by decide) ?_
            obtain rfl := Option.some.inj h
            refine zz.widen (k := 4) (n := 3030) (by omega) (by omega) ?_
            exact z_iret X hr rfl (fun t hG hF _ => ⟨⟨_, (), rfl, ⟨rfl, trivial⟩, hG⟩, hF⟩) dL_wallets_142
    · have h := zn q h
      refine z_iload_n X dL_wallets_143 rfl rfl ?_
      refine z_iconst (v := 3) X dL_wallets_144 (by decide) ?_
      refine z_irem X dL_wallets_145 (by decide) ?_
      refine z_if_ne (tgt := 159) X dL_wallets_146 (by decide) (fun q => ?_) (fun q => ?_)
      · have h := zp q h
        refine z_iload_n X dL_wallets_149 rfl rfl ?_
        refine z_iconst (v := 3) X dL_wallets_150 (by decide) ?_
        refine z_idiv X dL_wallets_151 (by decide) ?_
        refine z_sipush (v := 300) X dL_wallets_152 (by decide) ?_
        refine z_irem X dL_wallets_155 (by decide) ?_
        refine z_goto (tgt := 165) X dL_wallets_156 (by decide) ?_
        refine zz.pick (lo' := [(0, .ref ob), (2, .int (a2)), (3, .int (a3)), (4, .ref (ar 2)), (5, .int (x1)), (6, .int (o2))]) [0, 2, 3, 4, 5, 6] rfl ?_
        exact bl_wallets_165 X Y hml hr ⟨by omega, by omega⟩ h
      · have h := zn q h
        refine z_iload_n X dL_wallets_159 rfl rfl ?_
        refine z_iconst (v := 3) X dL_wallets_160 (by decide) ?_
        refine z_idiv X dL_wallets_161 (by decide) ?_
        refine z_bipush (v := 20) X dL_wallets_162 (by decide) ?_
        refine z_irem X dL_wallets_164 (by decide) ?_
        refine zz.pick (lo' := [(0, .ref ob), (2, .int (a2)), (3, .int (a3)), (4, .ref (ar 2)), (5, .int (x1)), (6, .int (o2))]) [0, 2, 3, 4, 5, 6] rfl ?_
        exact bl_wallets_165 X Y hml hr ⟨by omega, by omega⟩ h
theorem ll_wallets (l : Launch) {D : va_G} {dA : Nat → ClassId} {A : Nat → Prop} {n : Nat} {ar : Nat → Nat} {ob b Ls : Nat} {sc : Nat → Int32} (hst : l.stackTraces = false) (hA : ∀ q, n ≤ q → A q) (hbA : ¬ A b) {σ : GS} {a1 : Int32} {a2 : Int32} {a3 : Int32} {o : GS × Int32} (h : fl_wallets σ a1 a2 a3 = some o) : Met l yL_wallets (.code yL_wallets cL_wallets 10 (some .boolean) :: gT) ({ frames := 16, cells := 4, slots := 3030, locals := 672 } : Room) (va_Pc [.ref ob, .int (a1), .int (a2), .int (a3), .ref (ar 2)] (zBL D dA A n b Ls sc (gw D dA A σ ob ar))) (va_Qi (fun r (_ : Unit) => r = o.2 ∧ True) (fun _ t => gw D dA A o.1 ob ar t.heap) A) (4) (3030) A :=
  z_metL (by decide) hA hbA hst (Nat.le_of_ble_eq_true rfl) rfl rfl (fun p e s m below meth c X Y hml hr => bl_wallets X Y hml hr ⟨by omega, by omega⟩ h)
-- sets(LMeshBiller;III[I)Z
def fl_sets_79 (σ : GS) (v6 : Int32) (s1 : Int32) (s2 : Int32) : Option (GS × Int32) := (da_setRate σ.1 (s1) (s2) (v6)).bind fun o1 => (some ((o1.1, σ.2) : GS)).bind fun σ2 => (if o1.2 = v6 then some (σ2, 1)
  else some (σ2, 0))
set_option maxRecDepth 100000 in
set_option maxHeartbeats 4000000 in
theorem bl_sets_79 {p : Program} {l : Launch} {e : Env} {s : State} {m : MethodId} {args : Array Value} {below : List Frame} {meth : Method} {c : Code} {D : va_G} {dA : Nat → ClassId} {A : Nat → Prop} {ar : Nat → Nat} {ob b Ls : Nat} {sc : Nat → Int32} {o : GS × Int32} (X : zc p l s m args meth c cL_sets RL D dA A) (Y : zY s A b Ls sc) (hml : c.maxLocals = 8) (hr : meth.sig.returnType = (some .boolean)) {cells slots : Nat} (hcs : cells + (2) ≤ 6 ∧ slots + (912) ≤ 1824) {σ : GS} {v6 : Int32} {s1 : Int32} {s2 : Int32} (h : fl_sets_79 σ v6 s1 s2 = some o) : zz p l e ({ frames := 16, cells := 6, slots := 1824, locals := 672 } : Room) s m args below meth c A (gw D dA A σ ob ar) cells slots (MQ below (va_Qi (fun r (_ : Unit) => r = o.2 ∧ True) (fun _ t => gw D dA A o.1 ob ar t.heap) A) args s (6) (1824) A) 79 [(6, .int (v6))] [] [.int (s2), .int (s1), .ref ob] := by
  obtain ⟨hcs1, hcs2⟩ := hcs
  unfold fl_sets_79 at h
  refine z_iload X dL_sets_79 rfl ?_
  obtain ⟨o1, co1, h⟩ := zb2 h
  obtain ⟨σ2, eσ2, h⟩ := zb h
  refine l_a (As := [.int (s1), .int (s2), .int (v6)]) (rest := []) (nA := 3) (mc := 2) (ms := 912) (rm := ({ frames := 10, cells := 2, slots := 912, locals := 420 } : Room)) (o := o1) X (fun _ h11 => cc_setRate l X.2.2.2.2.2.2.2.2 X.2.2.2.2.2.2.1 h11 (ao_eq co1)) n_866 n_867 n_868 n_1 n_869 nh_yX11_setRate ⟨rfl, rfl, Nat.le_of_ble_eq_true rfl, Nat.le_of_ble_eq_true rfl⟩ rfl rfl (Nat.le_of_ble_eq_true rfl) dL_sets_81 ⟨by show _ ≤ 6; omega, by show _ ≤ 1824; omega⟩ ?_
  rw [eσ2]
  refine z_iload X dL_sets_84 rfl ?_
  refine z_icmp_ne (tgt := 93) X dL_sets_86 (by decide) (fun q => ?_) (fun q => ?_)
  · have h := zp q h
    refine z_iconst (v := 1) X dL_sets_89 (by decide) ?_
    refine z_goto (tgt := 94) X dL_sets_90 (by decide) ?_
    obtain rfl := Option.some.inj h
    refine zz.widen (k := 6) (n := 1824) (by omega) (by omega) ?_
    exact z_iret X hr rfl (fun t hG hF _ => ⟨⟨_, (), rfl, ⟨rfl, trivial⟩, hG⟩, hF⟩) dL_sets_94
  · have h := zn q h
    refine z_iconst (v := 0) X dL_sets_93 (by decide) ?_
    obtain rfl := Option.some.inj h
    refine zz.widen (k := 6) (n := 1824) (by omega) (by omega) ?_
    exact z_iret X hr rfl (fun t hG hF _ => ⟨⟨_, (), rfl, ⟨rfl, trivial⟩, hG⟩, hF⟩) dL_sets_94
def fl_sets_43 (σ : GS) (v2 : Int32) (v5 : Int32) (v6 : Int32) (s1 : Int32) (s2 : Int32) : Option (GS × Int32) := (da_setRate σ.1 (s1) (s2) (v6)).bind fun o1 => (some ((o1.1, σ.2) : GS)).bind fun σ2 => (some (o1.2)).bind fun x3 => (if x3 < 0 then some (σ2, 0)
  else (if 1000 < x3 then some (σ2, 0)
  else (if ((v2 / 3) - (v2 / 3) / 2 * 2) = 0 then fl_sets_79 σ2 v6 v5 1
  else fl_sets_79 σ2 v6 v5 0)))
set_option maxRecDepth 100000 in
set_option maxHeartbeats 4000000 in
theorem bl_sets_43 {p : Program} {l : Launch} {e : Env} {s : State} {m : MethodId} {args : Array Value} {below : List Frame} {meth : Method} {c : Code} {D : va_G} {dA : Nat → ClassId} {A : Nat → Prop} {ar : Nat → Nat} {ob b Ls : Nat} {sc : Nat → Int32} {o : GS × Int32} (X : zc p l s m args meth c cL_sets RL D dA A) (Y : zY s A b Ls sc) (hml : c.maxLocals = 8) (hr : meth.sig.returnType = (some .boolean)) {cells slots : Nat} (hcs : cells + (4) ≤ 6 ∧ slots + (1824) ≤ 1824) {σ : GS} {v2 : Int32} {v5 : Int32} {v6 : Int32} {s1 : Int32} {s2 : Int32} (h : fl_sets_43 σ v2 v5 v6 s1 s2 = some o) : zz p l e ({ frames := 16, cells := 6, slots := 1824, locals := 672 } : Room) s m args below meth c A (gw D dA A σ ob ar) cells slots (MQ below (va_Qi (fun r (_ : Unit) => r = o.2 ∧ True) (fun _ t => gw D dA A o.1 ob ar t.heap) A) args s (6) (1824) A) 43 [(0, .ref ob), (2, .int (v2)), (5, .int (v5)), (6, .int (v6))] [] [.int (s2), .int (s1), .ref ob] := by
  obtain ⟨hcs1, hcs2⟩ := hcs
  unfold fl_sets_43 at h
  refine z_iload X dL_sets_43 rfl ?_
  obtain ⟨o1, co1, h⟩ := zb2 h
  obtain ⟨σ2, eσ2, h⟩ := zb h
  refine l_a (As := [.int (s1), .int (s2), .int (v6)]) (rest := []) (nA := 3) (mc := 2) (ms := 912) (rm := ({ frames := 10, cells := 2, slots := 912, locals := 420 } : Room)) (o := o1) X (fun _ h11 => cc_setRate l X.2.2.2.2.2.2.2.2 X.2.2.2.2.2.2.1 h11 (ao_eq co1)) n_866 n_867 n_868 n_1 n_869 nh_yX11_setRate ⟨rfl, rfl, Nat.le_of_ble_eq_true rfl, Nat.le_of_ble_eq_true rfl⟩ rfl rfl (Nat.le_of_ble_eq_true rfl) dL_sets_45 ⟨by show _ ≤ 6; omega, by show _ ≤ 1824; omega⟩ ?_
  rw [eσ2]
  obtain ⟨x3, ex3, h⟩ := zb h
  rw [ex3]
  refine z_istore (lo' := [(7, .int (x3)), (0, .ref ob), (2, .int (v2)), (5, .int (v5)), (6, .int (v6))]) X dL_sets_48 (by rw [hml]; decide) rfl rfl ?_
  refine z_iload X dL_sets_50 rfl ?_
  refine z_if_lt (tgt := 93) X dL_sets_52 (by decide) (fun q => ?_) (fun q => ?_)
  · have h := zp q h
    refine z_iconst (v := 0) X dL_sets_93 (by decide) ?_
    obtain rfl := Option.some.inj h
    refine zz.widen (k := 6) (n := 1824) (by omega) (by omega) ?_
    exact z_iret X hr rfl (fun t hG hF _ => ⟨⟨_, (), rfl, ⟨rfl, trivial⟩, hG⟩, hF⟩) dL_sets_94
  · have h := zn q h
    refine z_iload X dL_sets_55 rfl ?_
    refine z_sipush (v := 1000) X dL_sets_57 (by decide) ?_
    refine z_icmp_gt (tgt := 93) X dL_sets_60 (by decide) (fun q => ?_) (fun q => ?_)
    · have h := zp q h
      refine z_iconst (v := 0) X dL_sets_93 (by decide) ?_
      obtain rfl := Option.some.inj h
      refine zz.widen (k := 6) (n := 1824) (by omega) (by omega) ?_
      exact z_iret X hr rfl (fun t hG hF _ => ⟨⟨_, (), rfl, ⟨rfl, trivial⟩, hG⟩, hF⟩) dL_sets_94
    · have h := zn q h
      refine z_aload_n X dL_sets_63 rfl rfl ?_
      refine z_iload X dL_sets_64 rfl ?_
      refine z_iload_n X dL_sets_66 rfl rfl ?_
      refine z_iconst (v := 3) X dL_sets_67 (by decide) ?_
      refine z_idiv X dL_sets_68 (by decide) ?_
      refine z_iconst (v := 2) X dL_sets_69 (by decide) ?_
      refine z_irem X dL_sets_70 (by decide) ?_
      refine z_if_ne (tgt := 78) X dL_sets_71 (by decide) (fun q => ?_) (fun q => ?_)
      · have h := zp q h
        refine z_iconst (v := 1) X dL_sets_74 (by decide) ?_
        refine z_goto (tgt := 79) X dL_sets_75 (by decide) ?_
        refine zz.pick (lo' := [(6, .int (v6))]) [6] rfl ?_
        exact bl_sets_79 X Y hml hr ⟨by omega, by omega⟩ h
      · have h := zn q h
        refine z_iconst (v := 0) X dL_sets_78 (by decide) ?_
        refine zz.pick (lo' := [(6, .int (v6))]) [6] rfl ?_
        exact bl_sets_79 X Y hml hr ⟨by omega, by omega⟩ h
def fl_sets_25 (σ : GS) (v2 : Int32) (v5 : Int32) (s0 : Int32) : Option (GS × Int32) := (if ((v2 / 3) - (v2 / 3) / 2 * 2) = 0 then fl_sets_43 σ v2 v5 s0 v5 1
  else fl_sets_43 σ v2 v5 s0 v5 0)
set_option maxRecDepth 100000 in
set_option maxHeartbeats 4000000 in
theorem bl_sets_25 {p : Program} {l : Launch} {e : Env} {s : State} {m : MethodId} {args : Array Value} {below : List Frame} {meth : Method} {c : Code} {D : va_G} {dA : Nat → ClassId} {A : Nat → Prop} {ar : Nat → Nat} {ob b Ls : Nat} {sc : Nat → Int32} {o : GS × Int32} (X : zc p l s m args meth c cL_sets RL D dA A) (Y : zY s A b Ls sc) (hml : c.maxLocals = 8) (hr : meth.sig.returnType = (some .boolean)) {cells slots : Nat} (hcs : cells + (4) ≤ 6 ∧ slots + (1824) ≤ 1824) {σ : GS} {v2 : Int32} {v5 : Int32} {s0 : Int32} (h : fl_sets_25 σ v2 v5 s0 = some o) : zz p l e ({ frames := 16, cells := 6, slots := 1824, locals := 672 } : Room) s m args below meth c A (gw D dA A σ ob ar) cells slots (MQ below (va_Qi (fun r (_ : Unit) => r = o.2 ∧ True) (fun _ t => gw D dA A o.1 ob ar t.heap) A) args s (6) (1824) A) 25 [(0, .ref ob), (2, .int (v2)), (5, .int (v5))] [] [.int (s0)] := by
  obtain ⟨hcs1, hcs2⟩ := hcs
  unfold fl_sets_25 at h
  refine z_istore (lo' := [(6, .int (s0)), (0, .ref ob), (2, .int (v2)), (5, .int (v5))]) X dL_sets_25 (by rw [hml]; decide) rfl rfl ?_
  refine z_aload_n X dL_sets_27 rfl rfl ?_
  refine z_iload X dL_sets_28 rfl ?_
  refine z_iload_n X dL_sets_30 rfl rfl ?_
  refine z_iconst (v := 3) X dL_sets_31 (by decide) ?_
  refine z_idiv X dL_sets_32 (by decide) ?_
  refine z_iconst (v := 2) X dL_sets_33 (by decide) ?_
  refine z_irem X dL_sets_34 (by decide) ?_
  refine z_if_ne (tgt := 42) X dL_sets_35 (by decide) (fun q => ?_) (fun q => ?_)
  · have h := zp q h
    refine z_iconst (v := 1) X dL_sets_38 (by decide) ?_
    refine z_goto (tgt := 43) X dL_sets_39 (by decide) ?_
    refine zz.pick (lo' := [(0, .ref ob), (2, .int (v2)), (5, .int (v5)), (6, .int (s0))]) [0, 2, 5, 6] rfl ?_
    exact bl_sets_43 X Y hml hr ⟨by omega, by omega⟩ h
  · have h := zn q h
    refine z_iconst (v := 0) X dL_sets_42 (by decide) ?_
    refine zz.pick (lo' := [(0, .ref ob), (2, .int (v2)), (5, .int (v5)), (6, .int (s0))]) [0, 2, 5, 6] rfl ?_
    exact bl_sets_43 X Y hml hr ⟨by omega, by omega⟩ h
def fl_sets_186 (σ : GS) (v6 : Int32) (s1 : Int32) (s2 : Int32) (s3 : Int32) : Option (GS × Int32) := (dv_setChannels σ.1 (s1) (s2) (s3)).bind fun o1 => (some ((o1.1, σ.2) : GS)).bind fun σ2 => (if o1.2 = v6 then some (σ2, 1)
  else some (σ2, 0))
set_option maxRecDepth 100000 in
set_option maxHeartbeats 4000000 in
theorem bl_sets_186 {p : Program} {l : Launch} {e : Env} {s : State} {m : MethodId} {args : Array Value} {below : List Frame} {meth : Method} {c : Code} {D : va_G} {dA : Nat → ClassId} {A : Nat → Prop} {ar : Nat → Nat} {ob b Ls : Nat} {sc : Nat → Int32} {o : GS × Int32} (X : zc p l s m args meth c cL_sets RL D dA A) (Y : zY s A b Ls sc) (hml : c.maxLocals = 8) (hr : meth.sig.returnType = (some .boolean)) {cells slots : Nat} (hcs : cells + (2) ≤ 6 ∧ slots + (12) ≤ 1824) {σ : GS} {v6 : Int32} {s1 : Int32} {s2 : Int32} {s3 : Int32} (h : fl_sets_186 σ v6 s1 s2 s3 = some o) : zz p l e ({ frames := 16, cells := 6, slots := 1824, locals := 672 } : Room) s m args below meth c A (gw D dA A σ ob ar) cells slots (MQ below (va_Qi (fun r (_ : Unit) => r = o.2 ∧ True) (fun _ t => gw D dA A o.1 ob ar t.heap) A) args s (6) (1824) A) 186 [(6, .int (v6))] [] [.int (s3), .int (s2), .int (s1), .ref ob] := by
  obtain ⟨hcs1, hcs2⟩ := hcs
  unfold fl_sets_186 at h
  obtain ⟨o1, co1, h⟩ := zb2 h
  obtain ⟨σ2, eσ2, h⟩ := zb h
  obtain ⟨u3, ko1, jo1⟩ := vo_eq co1
  refine l_v (As := [.int (s1), .int (s2), .int (s3)]) (rest := []) (nA := 3) (mc := 2) (ms := 12) (rm := ({ frames := 7, cells := 2, slots := 12, locals := 294 } : Room)) (o := u3) X (fun _ h11 => cc_setChannels l X.2.2.2.2.2.2.2.2 X.2.2.2.2.2.2.1 h11 ko1) n_876 n_877 n_878 n_1 n_879 nh_yX11_setChannels ⟨rfl, rfl, Nat.le_of_ble_eq_true rfl, Nat.le_of_ble_eq_true rfl⟩ rfl rfl (Nat.le_of_ble_eq_true rfl) dL_sets_186 ⟨by show _ ≤ 6; omega, by show _ ≤ 1824; omega⟩ ?_
  rw [show ((u3.1, σ.1.2), σ.2) = ((o1.1, σ.2) : GS) by rw [jo1], show u3.2 = o1.2 by rw [jo1], eσ2]
  refine z_iload X dL_sets_189 rfl ?_
  refine z_icmp_ne (tgt := 198) X dL_sets_191 (by decide) (fun q => ?_) (fun q => ?_)
  · have h := zp q h
    refine z_iconst (v := 1) X dL_sets_194 (by decide) ?_
    refine z_goto (tgt := 199) X dL_sets_195 (by decide) ?_
    obtain rfl := Option.some.inj h
    refine zz.widen (k := 6) (n := 1824) (by omega) (by omega) ?_
    exact z_iret X hr rfl (fun t hG hF _ => ⟨⟨_, (), rfl, ⟨rfl, trivial⟩, hG⟩, hF⟩) dL_sets_199
  · have h := zn q h
    refine z_iconst (v := 0) X dL_sets_198 (by decide) ?_
    obtain rfl := Option.some.inj h
    refine zz.widen (k := 6) (n := 1824) (by omega) (by omega) ?_
    exact z_iret X hr rfl (fun t hG hF _ => ⟨⟨_, (), rfl, ⟨rfl, trivial⟩, hG⟩, hF⟩) dL_sets_199
def fl_sets_185 (σ : GS) (v6 : Int32) (s1 : Int32) (s2 : Int32) : Option (GS × Int32) := fl_sets_186 σ v6 s1 s2 0
set_option maxRecDepth 100000 in
set_option maxHeartbeats 4000000 in
theorem bl_sets_185 {p : Program} {l : Launch} {e : Env} {s : State} {m : MethodId} {args : Array Value} {below : List Frame} {meth : Method} {c : Code} {D : va_G} {dA : Nat → ClassId} {A : Nat → Prop} {ar : Nat → Nat} {ob b Ls : Nat} {sc : Nat → Int32} {o : GS × Int32} (X : zc p l s m args meth c cL_sets RL D dA A) (Y : zY s A b Ls sc) (hml : c.maxLocals = 8) (hr : meth.sig.returnType = (some .boolean)) {cells slots : Nat} (hcs : cells + (2) ≤ 6 ∧ slots + (12) ≤ 1824) {σ : GS} {v6 : Int32} {s1 : Int32} {s2 : Int32} (h : fl_sets_185 σ v6 s1 s2 = some o) : zz p l e ({ frames := 16, cells := 6, slots := 1824, locals := 672 } : Room) s m args below meth c A (gw D dA A σ ob ar) cells slots (MQ below (va_Qi (fun r (_ : Unit) => r = o.2 ∧ True) (fun _ t => gw D dA A o.1 ob ar t.heap) A) args s (6) (1824) A) 185 [(6, .int (v6))] [] [.int (s2), .int (s1), .ref ob] := by
  obtain ⟨hcs1, hcs2⟩ := hcs
  unfold fl_sets_185 at h
  refine z_iconst (v := 0) X dL_sets_185 (by decide) ?_
  refine zz.pick (lo' := [(6, .int (v6))]) [6] rfl ?_
  exact bl_sets_186 X Y hml hr ⟨by omega, by omega⟩ h
def fl_sets_146 (k112 : GS → Int32 → Int32 → Int32 → Int32 → Option (GS × Int32)) (σ : GS) (v3 : Int32) (v5 : Int32) (v7 : Int32) (s0 : Int32) (s1 : Int32) : Option (GS × Int32) := (some ((s0 + s1))).bind fun x1 => (some (v7 + 1)).bind fun x2 => k112 σ v3 v5 x1 x2
set_option maxRecDepth 100000 in
set_option maxHeartbeats 4000000 in
theorem bl_sets_146 {p : Program} {l : Launch} {e : Env} {s : State} {m : MethodId} {args : Array Value} {below : List Frame} {meth : Method} {c : Code} {D : va_G} {dA : Nat → ClassId} {A : Nat → Prop} {ar : Nat → Nat} {ob b Ls : Nat} {sc : Nat → Int32} {o : GS × Int32} (X : zc p l s m args meth c cL_sets RL D dA A) (Y : zY s A b Ls sc) (hml : c.maxLocals = 8) (hr : meth.sig.returnType = (some .boolean)) {k112 : GS → Int32 → Int32 → Int32 → Int32 → Option (GS × Int32)} (hk112 : ∀ {σ : GS} {v3 : Int32} {v5 : Int32} {v6 : Int32} {v7 : Int32}, k112 σ v3 v5 v6 v7 = some o → zz p l e ({ frames := 16, cells := 6, slots := 1824, locals := 672 } : Room) s m args below meth c A (gw D dA A σ ob ar) cells slots (MQ below (va_Qi (fun r (_ : Unit) => r = o.2 ∧ True) (fun _ t => gw D dA A o.1 ob ar t.heap) A) args s (6) (1824) A) 112 [(0, .ref ob), (3, .int (v3)), (5, .int (v5)), (6, .int (v6)), (7, .int (v7))] [] []) {cells slots : Nat} (hcs : cells + (0) ≤ 6 ∧ slots + (0) ≤ 1824) {σ : GS} {v3 : Int32} {v5 : Int32} {v7 : Int32} {s0 : Int32} {s1 : Int32} (h : fl_sets_146 k112 σ v3 v5 v7 s0 s1 = some o) : zz p l e ({ frames := 16, cells := 6, slots := 1824, locals := 672 } : Room) s m args below meth c A (gw D dA A σ ob ar) cells slots (MQ below (va_Qi (fun r (_ : Unit) => r = o.2 ∧ True) (fun _ t => gw D dA A o.1 ob ar t.heap) A) args s (6) (1824) A) 146 [(0, .ref ob), (3, .int (v3)), (5, .int (v5)), (7, .int (v7))] [] [.int (s1), .int (s0)] := by
  obtain ⟨hcs1, hcs2⟩ := hcs
  unfold fl_sets_146 at h
  refine z_iadd X dL_sets_146 ?_
  obtain ⟨x1, ex1, h⟩ := zb h
  rw [ex1]
  refine z_istore (lo' := [(6, .int (x1)), (0, .ref ob), (3, .int (v3)), (5, .int (v5)), (7, .int (v7))]) X dL_sets_147 (by rw [hml]; decide) rfl rfl ?_
  obtain ⟨x2, ex2, h⟩ := zb h
  refine z_iinc (v := x2) (lo' := [(7, .int (x2)), (6, .int (x1)), (0, .ref ob), (3, .int (v3)), (5, .int (v5))]) X dL_sets_149 rfl ex2 (by rw [hml]; decide) rfl rfl ?_
  refine z_goto (tgt := 112) X dL_sets_152 (by decide) ?_
  refine zz.pick (lo' := [(0, .ref ob), (3, .int (v3)), (5, .int (v5)), (6, .int (x1)), (7, .int (x2))]) [0, 3, 5, 6, 7] rfl ?_
  exact hk112  h
def fl_sets_145 (k112 : GS → Int32 → Int32 → Int32 → Int32 → Option (GS × Int32)) (σ : GS) (v3 : Int32) (v5 : Int32) (v7 : Int32) (s0 : Int32) : Option (GS × Int32) := fl_sets_146 k112 σ v3 v5 v7 s0 0
set_option maxRecDepth 100000 in
set_option maxHeartbeats 4000000 in
theorem bl_sets_145 {p : Program} {l : Launch} {e : Env} {s : State} {m : MethodId} {args : Array Value} {below : List Frame} {meth : Method} {c : Code} {D : va_G} {dA : Nat → ClassId} {A : Nat → Prop} {ar : Nat → Nat} {ob b Ls : Nat} {sc : Nat → Int32} {o : GS × Int32} (X : zc p l s m args meth c cL_sets RL D dA A) (Y : zY s A b Ls sc) (hml : c.maxLocals = 8) (hr : meth.sig.returnType = (some .boolean)) {k112 : GS → Int32 → Int32 → Int32 → Int32 → Option (GS × Int32)} (hk112 : ∀ {σ : GS} {v3 : Int32} {v5 : Int32} {v6 : Int32} {v7 : Int32}, k112 σ v3 v5 v6 v7 = some o → zz p l e ({ frames := 16, cells := 6, slots := 1824, locals := 672 } : Room) s m args below meth c A (gw D dA A σ ob ar) cells slots (MQ below (va_Qi (fun r (_ : Unit) => r = o.2 ∧ True) (fun _ t => gw D dA A o.1 ob ar t.heap) A) args s (6) (1824) A) 112 [(0, .ref ob), (3, .int (v3)), (5, .int (v5)), (6, .int (v6)), (7, .int (v7))] [] []) {cells slots : Nat} (hcs : cells + (0) ≤ 6 ∧ slots + (0) ≤ 1824) {σ : GS} {v3 : Int32} {v5 : Int32} {v7 : Int32} {s0 : Int32} (h : fl_sets_145 k112 σ v3 v5 v7 s0 = some o) : zz p l e ({ frames := 16, cells := 6, slots := 1824, locals := 672 } : Room) s m args below meth c A (gw D dA A σ ob ar) cells slots (MQ below (va_Qi (fun r (_ : Unit) => r = o.2 ∧ True) (fun _ t => gw D dA A o.1 ob ar t.heap) A) args s (6) (1824) A) 145 [(0, .ref ob), (3, .int (v3)), (5, .int (v5)), (7, .int (v7))] [] [.int (s0)] := by
  obtain ⟨hcs1, hcs2⟩ := hcs
  unfold fl_sets_145 at h
  refine z_iconst (v := 0) X dL_sets_145 (by decide) ?_
  refine zz.pick (lo' := [(0, .ref ob), (3, .int (v3)), (5, .int (v5)), (7, .int (v7))]) [0, 3, 5, 7] rfl ?_
  exact bl_sets_146 X Y hml hr hk112 ⟨by omega, by omega⟩ h
def fl_sets_112 : Nat → GS → Int32 → Int32 → Int32 → Int32 → Option (GS × Int32)
  | 0, _, _, _, _, _ => none
  | n + 1, σ, v3, v5, v6, v7 => (if 10 ≤ v7 then (some ((v3 - v3 / 6 * 6))).bind fun x1 => (if x1 ≤ 1 then fl_sets_185 σ v6 v5 x1
  else (if ((v3 / 6) - (v3 / 6) / 4 * 4) = 0 then fl_sets_186 σ v6 v5 x1 1
  else fl_sets_185 σ v6 v5 x1))
  else (aq_legOf σ.1 (v7)).bind fun o2 => (if o2 < 0 then fl_sets_145 (fl_sets_112 n) σ v3 v5 v7 v6
  else (aq_cellOf σ.1 (v7)).bind fun o3 => (if o3 = v5 then fl_sets_146 (fl_sets_112 n) σ v3 v5 v7 v6 1
  else fl_sets_145 (fl_sets_112 n) σ v3 v5 v7 v6)))
set_option maxRecDepth 100000 in
set_option maxHeartbeats 4000000 in
theorem bl_sets_112 {p : Program} {l : Launch} {e : Env} {s : State} {m : MethodId} {args : Array Value} {below : List Frame} {meth : Method} {c : Code} {D : va_G} {dA : Nat → ClassId} {A : Nat → Prop} {ar : Nat → Nat} {ob b Ls : Nat} {sc : Nat → Int32} {o : GS × Int32} (X : zc p l s m args meth c cL_sets RL D dA A) (Y : zY s A b Ls sc) (hml : c.maxLocals = 8) (hr : meth.sig.returnType = (some .boolean)) : ∀ (n : Nat) {cells slots : Nat} (hcs : cells + (2) ≤ 6 ∧ slots + (12) ≤ 1824) {σ : GS} {v3 : Int32} {v5 : Int32} {v6 : Int32} {v7 : Int32}, fl_sets_112 n σ v3 v5 v6 v7 = some o → zz p l e ({ frames := 16, cells := 6, slots := 1824, locals := 672 } : Room) s m args below meth c A (gw D dA A σ ob ar) cells slots (MQ below (va_Qi (fun r (_ : Unit) => r = o.2 ∧ True) (fun _ t => gw D dA A o.1 ob ar t.heap) A) args s (6) (1824) A) 112 [(0, .ref ob), (3, .int (v3)), (5, .int (v5)), (6, .int (v6)), (7, .int (v7))] [] [] := by
  intro n
  induction n with
  | zero => intro cells slots hcs σ v3 v5 v6 v7 h; exact (nomatch (show none = some o from h))
  | succ n ih =>
    intro cells slots hcs σ v3 v5 v6 v7 h
    obtain ⟨hcs1, hcs2⟩ := hcs
    rw [fl_sets_112] at h
    refine z_iload X dL_sets_112 rfl ?_
    refine z_bipush (v := 10) X dL_sets_114 (by decide) ?_
    refine z_icmp_ge (tgt := 155) X dL_sets_116 (by decide) (fun q => ?_) (fun q => ?_)
    · have h := zp q h
      refine z_iload_n X dL_sets_155 rfl rfl ?_
      refine z_bipush (v := 6) X dL_sets_156 (by decide) ?_
      refine z_irem X dL_sets_158 (by decide) ?_
      obtain ⟨x1, ex1, h⟩ := zb h
      rw [ex1]
      refine z_istore (lo' := [(7, .int (x1)), (0, .ref ob), (3, .int (v3)), (5, .int (v5)), (6, .int (v6))]) X dL_sets_159 (by rw [hml]; decide) rfl rfl ?_
      refine z_aload_n X dL_sets_161 rfl rfl ?_
      refine z_iload X dL_sets_162 rfl ?_
      refine z_iload X dL_sets_164 rfl ?_
      refine z_iload X dL_sets_166 rfl ?_
      refine z_iconst (v := 1) X dL_sets_168 (by decide) ?_
      refine z_icmp_le (tgt := 185) X dL_sets_169 (by decide) (fun q => ?_) (fun q => ?_)
      · have h := zp q h
        refine zz.pick (lo' := [(6, .int (v6))]) [6] rfl ?_
        exact bl_sets_185 X Y hml hr ⟨by omega, by omega⟩ h
      · have h := zn q h
        refine z_iload_n X dL_sets_172 rfl rfl ?_
        refine z_bipush (v := 6) X dL_sets_173 (by decide) ?_
        refine z_idiv X dL_sets_175 (by decide) ?_
        refine z_iconst (v := 4) X dL_sets_176 (by decide) ?_
        refine z_irem X dL_sets_177 (by decide) ?_
        refine z_if_ne (tgt := 185) X dL_sets_178 (by decide) (fun q => ?_) (fun q => ?_)
        · have h := zp q h
          refine z_iconst (v := 1) X dL_sets_181 (by decide) ?_
          refine z_goto (tgt := 186) X dL_sets_182 (by decide) ?_
          refine zz.pick (lo' := [(6, .int (v6))]) [6] rfl ?_
          exact bl_sets_186 X Y hml hr ⟨by omega, by omega⟩ h
        · have h := zn q h
          refine zz.pick (lo' := [(6, .int (v6))]) [6] rfl ?_
          exact bl_sets_185 X Y hml hr ⟨by omega, by omega⟩ h
    · have h := zn q h
      refine z_iload X dL_sets_119 rfl ?_
      refine z_aload_n X dL_sets_121 rfl rfl ?_
      refine z_iload X dL_sets_122 rfl ?_
      obtain ⟨o2, co2, h⟩ := zb2 h
      refine l_q (As := [.int (v7)]) (rest := [.int (v6)]) (nA := 1) (mc := 0) (ms := 0) (rm := ({ frames := 7, cells := 0, slots := 0, locals := 294 } : Room)) (r0 := o2) X (fun _ h11 => cz_legOf l X.2.2.2.2.2.2.2.2 X.2.2.2.2.2.2.1 h11 (fun _ z => nomatch z) (qo_eq co2)) n_313 n_314 n_315 n_1 n_316 nh_yX11_legOf ⟨rfl, rfl, Nat.le_of_ble_eq_true rfl, Nat.le_of_ble_eq_true rfl⟩ rfl rfl (Nat.le_of_ble_eq_true rfl) dL_sets_124 ⟨by show _ ≤ 6; omega, by show _ ≤ 1824; omega⟩ ?_
      refine z_if_lt (tgt := 145) X dL_sets_127 (by decide) (fun q => ?_) (fun q => ?_)
      · have h := zp q h
        refine zz.pick (lo' := [(0, .ref ob), (3, .int (v3)), (5, .int (v5)), (7, .int (v7))]) [0, 3, 5, 7] rfl ?_
        exact bl_sets_145 X Y hml hr ih ⟨by omega, by omega⟩ h
      · have h := zn q h
        refine z_aload_n X dL_sets_130 rfl rfl ?_
        refine z_iload X dL_sets_131 rfl ?_
        obtain ⟨o3, co3, h⟩ := zb2 h
        refine l_q (As := [.int (v7)]) (rest := [.int (v6)]) (nA := 1) (mc := 0) (ms := 0) (rm := ({ frames := 7, cells := 0, slots := 0, locals := 294 } : Room)) (r0 := o3) X (fun _ h11 => cz_cellOf l X.2.2.2.2.2.2.2.2 X.2.2.2.2.2.2.1 h11 (fun _ z => nomatch z) (qo_eq co3)) n_761 n_762 n_763 n_1 n_764 nh_yX11_cellOf ⟨rfl, rfl, Nat.le_of_ble_eq_true rfl, Nat.le_of_ble_eq_true rfl⟩ rfl rfl (Nat.le_of_ble_eq_true rfl) dL_sets_133 ⟨by show _ ≤ 6; omega, by show _ ≤ 1824; omega⟩ ?_
        refine z_iload X dL_sets_136 rfl ?_
        refine z_icmp_ne (tgt := 145) X dL_sets_138 (by decide) (fun q => ?_) (fun q => ?_)
        · have h := zp q h
          refine z_iconst (v := 1) X dL_sets_141 (by decide) ?_
          refine z_goto (tgt := 146) X dL_sets_142 (by decide) ?_
          refine zz.pick (lo' := [(0, .ref ob), (3, .int (v3)), (5, .int (v5)), (7, .int (v7))]) [0, 3, 5, 7] rfl ?_
          exact bl_sets_146 X Y hml hr ih ⟨by omega, by omega⟩ h
        · have h := zn q h
          refine zz.pick (lo' := [(0, .ref ob), (3, .int (v3)), (5, .int (v5)), (7, .int (v7))]) [0, 3, 5, 7] rfl ?_
          exact bl_sets_145 X Y hml hr ih ⟨by omega, by omega⟩ h
def fl_sets_220 (σ : GS) (s0 : Int32) (s1 : Int32) (s2 : Int32) : Option (GS × Int32) := if s2 = 0 then none else (some ((s0 + (s1 - s1 / s2 * s2)))).bind fun x2 => (dv_setSlice σ.1 (x2)).bind fun o3 => (some ((o3.1, σ.2) : GS)).bind fun σ4 => (some (o3.2)).bind fun x6 => (if x6 ≤ 0 then some (σ4, 0)
  else (if 100 < x6 then some (σ4, 0)
  else (dv_setSlice σ4.1 (x2)).bind fun o7 => (some ((o7.1, σ4.2) : GS)).bind fun σ8 => (if o7.2 = x2 then some (σ8, 1)
  else some (σ8, 0))))
set_option maxRecDepth 100000 in
set_option maxHeartbeats 4000000 in
theorem bl_sets_220 {p : Program} {l : Launch} {e : Env} {s : State} {m : MethodId} {args : Array Value} {below : List Frame} {meth : Method} {c : Code} {D : va_G} {dA : Nat → ClassId} {A : Nat → Prop} {ar : Nat → Nat} {ob b Ls : Nat} {sc : Nat → Int32} {o : GS × Int32} (X : zc p l s m args meth c cL_sets RL D dA A) (Y : zY s A b Ls sc) (hml : c.maxLocals = 8) (hr : meth.sig.returnType = (some .boolean)) {cells slots : Nat} (hcs : cells + (2) ≤ 6 ∧ slots + (12) ≤ 1824) {σ : GS} {s0 : Int32} {s1 : Int32} {s2 : Int32} (h : fl_sets_220 σ s0 s1 s2 = some o) : zz p l e ({ frames := 16, cells := 6, slots := 1824, locals := 672 } : Room) s m args below meth c A (gw D dA A σ ob ar) cells slots (MQ below (va_Qi (fun r (_ : Unit) => r = o.2 ∧ True) (fun _ t => gw D dA A o.1 ob ar t.heap) A) args s (6) (1824) A) 220 [(0, .ref ob)] [] [.int (s2), .int (s1), .int (s0)] := by
  obtain ⟨hcs1, hcs2⟩ := hcs
  unfold fl_sets_220 at h
  obtain ⟨q1, h⟩ := zg h
  refine z_irem X dL_sets_220 q1 ?_
  refine z_iadd X dL_sets_221 ?_
  obtain ⟨x2, ex2, h⟩ := zb h
  rw [ex2]
  refine z_istore (lo' := [(5, .int (x2)), (0, .ref ob)]) X dL_sets_222 (by rw [hml]; decide) rfl rfl ?_
  refine z_aload_n X dL_sets_224 rfl rfl ?_
  refine z_iload X dL_sets_225 rfl ?_
  obtain ⟨o3, co3, h⟩ := zb2 h
  obtain ⟨σ4, eσ4, h⟩ := zb h
  obtain ⟨u5, ko3, jo3⟩ := vo_eq co3
  refine l_v (As := [.int (x2)]) (rest := []) (nA := 1) (mc := 1) (ms := 6) (rm := ({ frames := 7, cells := 1, slots := 6, locals := 294 } : Room)) (o := u5) X (fun _ h11 => cc_setSlice l X.2.2.2.2.2.2.2.2 X.2.2.2.2.2.2.1 h11 ko3) n_881 n_882 n_883 n_1 n_884 nh_yX11_setSlice ⟨rfl, rfl, Nat.le_of_ble_eq_true rfl, Nat.le_of_ble_eq_true rfl⟩ rfl rfl (Nat.le_of_ble_eq_true rfl) dL_sets_227 ⟨by show _ ≤ 6; omega, by show _ ≤ 1824; omega⟩ ?_
  rw [show ((u5.1, σ.1.2), σ.2) = ((o3.1, σ.2) : GS) by rw [jo3], show u5.2 = o3.2 by rw [jo3], eσ4]
  obtain ⟨x6, ex6, h⟩ := zb h
  rw [ex6]
  refine z_istore (lo' := [(6, .int (x6)), (5, .int (x2)), (0, .ref ob)]) X dL_sets_230 (by rw [hml]; decide) rfl rfl ?_
  refine z_iload X dL_sets_232 rfl ?_
  refine z_if_le (tgt := 259) X dL_sets_234 (by decide) (fun q => ?_) (fun q => ?_)
  · have h := zp q h
    refine z_iconst (v := 0) X dL_sets_259 (by decide) ?_
    obtain rfl := Option.some.inj h
    refine zz.widen (k := 6) (n := 1824) (by omega) (by omega) ?_
    exact z_iret X hr rfl (fun t hG hF _ => ⟨⟨_, (), rfl, ⟨rfl, trivial⟩, hG⟩, hF⟩) dL_sets_260
  · have h := zn q h
    refine z_iload X dL_sets_237 rfl ?_
    refine z_bipush (v := 100) X dL_sets_239 (by decide) ?_
    refine z_icmp_gt (tgt := 259) X dL_sets_241 (by decide) (fun q => ?_) (fun q => ?_)
    · have h := zp q h
      refine z_iconst (v := 0) X dL_sets_259 (by decide) ?_
      obtain rfl := Option.some.inj h
      refine zz.widen (k := 6) (n := 1824) (by omega) (by omega) ?_
      exact z_iret X hr rfl (fun t hG hF _ => ⟨⟨_, (), rfl, ⟨rfl, trivial⟩, hG⟩, hF⟩) dL_sets_260
    · have h := zn q h
      refine z_aload_n X dL_sets_244 rfl rfl ?_
      refine z_iload X dL_sets_245 rfl ?_
      obtain ⟨o7, co7, h⟩ := zb2 h
      obtain ⟨σ8, eσ8, h⟩ := zb h
      obtain ⟨u9, ko7, jo7⟩ := vo_eq co7
      refine l_v (As := [.int (x2)]) (rest := []) (nA := 1) (mc := 1) (ms := 6) (rm := ({ frames := 7, cells := 1, slots := 6, locals := 294 } : Room)) (o := u9) X (fun _ h11 => cc_setSlice l X.2.2.2.2.2.2.2.2 X.2.2.2.2.2.2.1 h11 ko7) n_881 n_882 n_883 n_1 n_884 nh_yX11_setSlice ⟨rfl, rfl, Nat.le_of_ble_eq_true rfl, Nat.le_of_ble_eq_true rfl⟩ rfl rfl (Nat.le_of_ble_eq_true rfl) dL_sets_247 ⟨by show _ ≤ 6; omega, by show _ ≤ 1824; omega⟩ ?_
      rw [show ((u9.1, σ4.1.2), σ4.2) = ((o7.1, σ4.2) : GS) by rw [jo7], show u9.2 = o7.2 by rw [jo7], eσ8]
      refine z_iload X dL_sets_250 rfl ?_
      refine z_icmp_ne (tgt := 259) X dL_sets_252 (by decide) (fun q => ?_) (fun q => ?_)
      · have h := zp q h
        refine z_iconst (v := 1) X dL_sets_255 (by decide) ?_
        refine z_goto (tgt := 260) X dL_sets_256 (by decide) ?_
        obtain rfl := Option.some.inj h
        refine zz.widen (k := 6) (n := 1824) (by omega) (by omega) ?_
        exact z_iret X hr rfl (fun t hG hF _ => ⟨⟨_, (), rfl, ⟨rfl, trivial⟩, hG⟩, hF⟩) dL_sets_260
      · have h := zn q h
        refine z_iconst (v := 0) X dL_sets_259 (by decide) ?_
        obtain rfl := Option.some.inj h
        refine zz.widen (k := 6) (n := 1824) (by omega) (by omega) ?_
        exact z_iret X hr rfl (fun t hG hF _ => ⟨⟨_, (), rfl, ⟨rfl, trivial⟩, hG⟩, hF⟩) dL_sets_260
def fl_sets_283 (σ : GS) (v2 : Int32) (s0 : Int32) : Option (GS × Int32) := (dv_setCap σ.1 ((v2 - v2 / 10 * 10)) (s0)).bind fun o1 => (some ((o1.1, σ.2) : GS)).bind fun σ2 => (some (o1.2)).bind fun x4 => (if x4 < (-1) then some (σ2, 0)
  else (dv_setCap σ2.1 ((v2 - v2 / 10 * 10)) (s0)).bind fun o5 => (some ((o5.1, σ2.2) : GS)).bind fun σ6 => (if o5.2 = s0 then some (σ6, 1)
  else some (σ6, 0)))
set_option maxRecDepth 100000 in
set_option maxHeartbeats 4000000 in
theorem bl_sets_283 {p : Program} {l : Launch} {e : Env} {s : State} {m : MethodId} {args : Array Value} {below : List Frame} {meth : Method} {c : Code} {D : va_G} {dA : Nat → ClassId} {A : Nat → Prop} {ar : Nat → Nat} {ob b Ls : Nat} {sc : Nat → Int32} {o : GS × Int32} (X : zc p l s m args meth c cL_sets RL D dA A) (Y : zY s A b Ls sc) (hml : c.maxLocals = 8) (hr : meth.sig.returnType = (some .boolean)) {cells slots : Nat} (hcs : cells + (4) ≤ 6 ∧ slots + (24) ≤ 1824) {σ : GS} {v2 : Int32} {s0 : Int32} (h : fl_sets_283 σ v2 s0 = some o) : zz p l e ({ frames := 16, cells := 6, slots := 1824, locals := 672 } : Room) s m args below meth c A (gw D dA A σ ob ar) cells slots (MQ below (va_Qi (fun r (_ : Unit) => r = o.2 ∧ True) (fun _ t => gw D dA A o.1 ob ar t.heap) A) args s (6) (1824) A) 283 [(0, .ref ob), (2, .int (v2))] [] [.int (s0)] := by
  obtain ⟨hcs1, hcs2⟩ := hcs
  unfold fl_sets_283 at h
  refine z_istore (lo' := [(5, .int (s0)), (0, .ref ob), (2, .int (v2))]) X dL_sets_283 (by rw [hml]; decide) rfl rfl ?_
  refine z_aload_n X dL_sets_285 rfl rfl ?_
  refine z_iload_n X dL_sets_286 rfl rfl ?_
  refine z_bipush (v := 10) X dL_sets_287 (by decide) ?_
  refine z_irem X dL_sets_289 (by decide) ?_
  refine z_iload X dL_sets_290 rfl ?_
  obtain ⟨o1, co1, h⟩ := zb2 h
  obtain ⟨σ2, eσ2, h⟩ := zb h
  obtain ⟨u3, ko1, jo1⟩ := vo_eq co1
  refine l_v (As := [.int ((v2 - v2 / 10 * 10)), .int (s0)]) (rest := []) (nA := 2) (mc := 2) (ms := 12) (rm := ({ frames := 7, cells := 2, slots := 12, locals := 294 } : Room)) (o := u3) X (fun _ h11 => cc_setCap l X.2.2.2.2.2.2.2.2 X.2.2.2.2.2.2.1 h11 ko1) n_885 n_886 n_887 n_1 n_888 nh_yX11_setCap ⟨rfl, rfl, Nat.le_of_ble_eq_true rfl, Nat.le_of_ble_eq_true rfl⟩ rfl rfl (Nat.le_of_ble_eq_true rfl) dL_sets_292 ⟨by show _ ≤ 6; omega, by show _ ≤ 1824; omega⟩ ?_
  rw [show ((u3.1, σ.1.2), σ.2) = ((o1.1, σ.2) : GS) by rw [jo1], show u3.2 = o1.2 by rw [jo1], eσ2]
  obtain ⟨x4, ex4, h⟩ := zb h
  rw [ex4]
  refine z_istore (lo' := [(6, .int (x4)), (5, .int (s0)), (0, .ref ob), (2, .int (v2))]) X dL_sets_295 (by rw [hml]; decide) rfl rfl ?_
  refine z_iload X dL_sets_297 rfl ?_
  refine z_iconst (v := (-1)) X dL_sets_299 (by decide) ?_
  refine z_icmp_lt (tgt := 322) X dL_sets_300 (by decide) (fun q => ?_) (fun q => ?_)
  · have h := zp q h
    refine z_iconst (v := 0) X dL_sets_322 (by decide) ?_
    obtain rfl := Option.some.inj h
    refine zz.widen (k := 6) (n := 1824) (by omega) (by omega) ?_
    exact z_iret X hr rfl (fun t hG hF _ => ⟨⟨_, (), rfl, ⟨rfl, trivial⟩, hG⟩, hF⟩) dL_sets_323
  · have h := zn q h
    refine z_aload_n X dL_sets_303 rfl rfl ?_
    refine z_iload_n X dL_sets_304 rfl rfl ?_
    refine z_bipush (v := 10) X dL_sets_305 (by decide) ?_
    refine z_irem X dL_sets_307 (by decide) ?_
    refine z_iload X dL_sets_308 rfl ?_
    obtain ⟨o5, co5, h⟩ := zb2 h
    obtain ⟨σ6, eσ6, h⟩ := zb h
    obtain ⟨u7, ko5, jo5⟩ := vo_eq co5
    refine l_v (As := [.int ((v2 - v2 / 10 * 10)), .int (s0)]) (rest := []) (nA := 2) (mc := 2) (ms := 12) (rm := ({ frames := 7, cells := 2, slots := 12, locals := 294 } : Room)) (o := u7) X (fun _ h11 => cc_setCap l X.2.2.2.2.2.2.2.2 X.2.2.2.2.2.2.1 h11 ko5) n_885 n_886 n_887 n_1 n_888 nh_yX11_setCap ⟨rfl, rfl, Nat.le_of_ble_eq_true rfl, Nat.le_of_ble_eq_true rfl⟩ rfl rfl (Nat.le_of_ble_eq_true rfl) dL_sets_310 ⟨by show _ ≤ 6; omega, by show _ ≤ 1824; omega⟩ ?_
    rw [show ((u7.1, σ2.1.2), σ2.2) = ((o5.1, σ2.2) : GS) by rw [jo5], show u7.2 = o5.2 by rw [jo5], eσ6]
    refine z_iload X dL_sets_313 rfl ?_
    refine z_icmp_ne (tgt := 322) X dL_sets_315 (by decide) (fun q => ?_) (fun q => ?_)
    · have h := zp q h
      refine z_iconst (v := 1) X dL_sets_318 (by decide) ?_
      refine z_goto (tgt := 323) X dL_sets_319 (by decide) ?_
      obtain rfl := Option.some.inj h
      refine zz.widen (k := 6) (n := 1824) (by omega) (by omega) ?_
      exact z_iret X hr rfl (fun t hG hF _ => ⟨⟨_, (), rfl, ⟨rfl, trivial⟩, hG⟩, hF⟩) dL_sets_323
    · have h := zn q h
      refine z_iconst (v := 0) X dL_sets_322 (by decide) ?_
      obtain rfl := Option.some.inj h
      refine zz.widen (k := 6) (n := 1824) (by omega) (by omega) ?_
      exact z_iret X hr rfl (fun t hG hF _ => ⟨⟨_, (), rfl, ⟨rfl, trivial⟩, hG⟩, hF⟩) dL_sets_323
def fl_sets (σ : GS) (a1 : Int32) (a2 : Int32) (a3 : Int32) : Option (GS × Int32) := (if a1 = 0 then (some ((a2 - a2 / 3 * 3))).bind fun x1 => (if (a3 - a3 / 4 * 4) = 0 then fl_sets_25 σ a2 x1 0
  else fl_sets_25 σ a2 x1 ((a3 / 4) - (a3 / 4) / 90 * 90))
  else (if a1 = 1 then (some ((a2 - a2 / 8 * 8))).bind fun x2 => fl_sets_112 FU σ a3 x2 0 0
  else (if a1 = 2 then (if (a3 - a3 / 3 * 3) = 0 then fl_sets_220 σ 1 a3 100
  else fl_sets_220 σ 1 a3 9)
  else (if a1 = 3 then (if (a3 - a3 / 3 * 3) = 0 then fl_sets_283 σ a2 (-1)
  else fl_sets_283 σ a2 ((a3 / 3) - (a3 / 3) / 800 * 800))
  else (if a1 = 4 then (ak_setWallet σ.1 ((a2 - a2 / 10 * 10)) ((a3 - a3 / 4 * 4)) (0)).bind fun o3 => (some ((o3.1, σ.2) : GS)).bind fun σ4 => (some (o3.2)).bind fun x5 => (aq_legOf σ4.1 ((a2 - a2 / 10 * 10))).bind fun o6 => (if o6 < 0 then (if x5 < 0 then some (σ4, 0)
  else (if 4 ≤ x5 then some (σ4, 0)
  else (dv_setWallet σ4.1 ((a2 - a2 / 10 * 10)) ((a3 - a3 / 4 * 4))).bind fun o7 => (some ((o7.1, σ4.2) : GS)).bind fun σ8 => (if o7.2 = (a3 - a3 / 4 * 4) then some (σ8, 1)
  else some (σ8, 0))))
  else (if x5 = (-108) then some (σ4, 1)
  else some (σ4, 0)))
  else (ak_setZone σ.1 ((a2 - a2 / 8 * 8)) ((a3 - a3 / 3 * 3)) (0)).bind fun o10 => (some ((o10.1, σ.2) : GS)).bind fun σ11 => (some (o10.2)).bind fun x12 => (if (σ11.2 2 (1).toNatClampNeg) ≤ 0 then (if x12 < 0 then some (σ11, 0)
  else (if 3 ≤ x12 then some (σ11, 0)
  else (dv_setZone σ11.1 ((a2 - a2 / 8 * 8)) ((a3 - a3 / 3 * 3))).bind fun o13 => (some ((o13.1, σ11.2) : GS)).bind fun σ14 => (if o13.2 = (a3 - a3 / 3 * 3) then some (σ14, 1)
  else some (σ14, 0))))
  else (if x12 = (-108) then some (σ11, 1)
  else some (σ11, 0))))))))
set_option maxRecDepth 100000 in
set_option maxHeartbeats 4000000 in
theorem bl_sets {p : Program} {l : Launch} {e : Env} {s : State} {m : MethodId} {args : Array Value} {below : List Frame} {meth : Method} {c : Code} {D : va_G} {dA : Nat → ClassId} {A : Nat → Prop} {ar : Nat → Nat} {ob b Ls : Nat} {sc : Nat → Int32} {o : GS × Int32} (X : zc p l s m args meth c cL_sets RL D dA A) (Y : zY s A b Ls sc) (hml : c.maxLocals = 8) (hr : meth.sig.returnType = (some .boolean)) {cells slots : Nat} (hcs : cells + (6) ≤ 6 ∧ slots + (1824) ≤ 1824) {σ : GS} {a1 : Int32} {a2 : Int32} {a3 : Int32} (h : fl_sets σ a1 a2 a3 = some o) : zz p l e ({ frames := 16, cells := 6, slots := 1824, locals := 672 } : Room) s m args below meth c A (gw D dA A σ ob ar) cells slots (MQ below (va_Qi (fun r (_ : Unit) => r = o.2 ∧ True) (fun _ t => gw D dA A o.1 ob ar t.heap) A) args s (6) (1824) A) 0 [(0, .ref ob), (1, .int (a1)), (2, .int (a2)), (3, .int (a3)), (4, .ref (ar 2))] [] [] := by
  obtain ⟨hcs1, hcs2⟩ := hcs
  unfold fl_sets at h
  refine z_iload_n X dL_sets_0 rfl rfl ?_
  refine z_if_ne (tgt := 95) X dL_sets_1 (by decide) (fun q => ?_) (fun q => ?_)
  · have h := zp q h
    refine z_iload_n X dL_sets_4 rfl rfl ?_
    refine z_iconst (v := 3) X dL_sets_5 (by decide) ?_
    refine z_irem X dL_sets_6 (by decide) ?_
    obtain ⟨x1, ex1, h⟩ := zb h
    rw [ex1]
    refine z_istore (lo' := [(5, .int (x1)), (0, .ref ob), (1, .int (a1)), (2, .int (a2)), (3, .int (a3)), (4, .ref (ar 2))]) X dL_sets_7 (by rw [hml]; decide) rfl rfl ?_
    refine z_iload_n X dL_sets_9 rfl rfl ?_
    refine z_iconst (v := 4) X dL_sets_10 (by decide) ?_
    refine z_irem X dL_sets_11 (by decide) ?_
    refine z_if_ne (tgt := 19) X dL_sets_12 (by decide) (fun q => ?_) (fun q => ?_)
    · have h := zp q h
      refine z_iconst (v := 0) X dL_sets_15 (by decide) ?_
      refine z_goto (tgt := 25) X dL_sets_16 (by decide) ?_
      refine zz.pick (lo' := [(0, .ref ob), (2, .int (a2)), (5, .int (x1))]) [0, 2, 5] rfl ?_
      exact bl_sets_25 X Y hml hr ⟨by omega, by omega⟩ h
    · have h := zn q h
      refine z_iload_n X dL_sets_19 rfl rfl ?_
      refine z_iconst (v := 4) X dL_sets_20 (by decide) ?_
      refine z_idiv X dL_sets_21 (by decide) ?_
      refine z_bipush (v := 90) X dL_sets_22 (by decide) ?_
      refine z_irem X dL_sets_24 (by decide) ?_
      refine zz.pick (lo' := [(0, .ref ob), (2, .int (a2)), (5, .int (x1))]) [0, 2, 5] rfl ?_
      exact bl_sets_25 X Y hml hr ⟨by omega, by omega⟩ h
  · have h := zn q h
    refine z_iload_n X dL_sets_95 rfl rfl ?_
    refine z_iconst (v := 1) X dL_sets_96 (by decide) ?_
    refine z_icmp_ne (tgt := 200) X dL_sets_97 (by decide) (fun q => ?_) (fun q => ?_)
    · have h := zp q h
      refine z_iload_n X dL_sets_100 rfl rfl ?_
      refine z_bipush (v := 8) X dL_sets_101 (by decide) ?_
      refine z_irem X dL_sets_103 (by decide) ?_
      obtain ⟨x2, ex2, h⟩ := zb h
      rw [ex2]
      refine z_istore (lo' := [(5, .int (x2)), (0, .ref ob), (1, .int (a1)), (2, .int (a2)), (3, .int (a3)), (4, .ref (ar 2))]) X dL_sets_104 (by rw [hml]; decide) rfl rfl ?_
      refine z_iconst (v := 0) X dL_sets_106 (by decide) ?_
      refine z_istore (lo' := [(6, .int (0)), (5, .int (x2)), (0, .ref ob), (1, .int (a1)), (2, .int (a2)), (3, .int (a3)), (4, .ref (ar 2))]) X dL_sets_107 (by rw [hml]; decide) rfl rfl ?_
      refine z_iconst (v := 0) X dL_sets_109 (by decide) ?_
      refine z_istore (lo' := [(7, .int (0)), (6, .int (0)), (5, .int (x2)), (0, .ref ob), (1, .int (a1)), (2, .int (a2)), (3, .int (a3)), (4, .ref (ar 2))]) X dL_sets_110 (by rw [hml]; decide) rfl rfl ?_
      refine zz.pick (lo' := [(0, .ref ob), (3, .int (a3)), (5, .int (x2)), (6, .int (0)), (7, .int (0))]) [0, 3, 5, 6, 7] rfl ?_
      exact bl_sets_112 X Y hml hr FU ⟨by omega, by omega⟩ h
    · have h := zn q h
      refine z_iload_n X dL_sets_200 rfl rfl ?_
      refine z_iconst (v := 2) X dL_sets_201 (by decide) ?_
      refine z_icmp_ne (tgt := 261) X dL_sets_202 (by decide) (fun q => ?_) (fun q => ?_)
      · have h := zp q h
        refine z_iconst (v := 1) X dL_sets_205 (by decide) ?_
        refine z_iload_n X dL_sets_206 rfl rfl ?_
        refine z_iload_n X dL_sets_207 rfl rfl ?_
        refine z_iconst (v := 3) X dL_sets_208 (by decide) ?_
        refine z_irem X dL_sets_209 (by decide) ?_
        refine z_if_ne (tgt := 218) X dL_sets_210 (by decide) (fun q => ?_) (fun q => ?_)
        · have h := zp q h
          refine z_bipush (v := 100) X dL_sets_213 (by decide) ?_
          refine z_goto (tgt := 220) X dL_sets_215 (by decide) ?_
          refine zz.pick (lo' := [(0, .ref ob)]) [0] rfl ?_
          exact bl_sets_220 X Y hml hr ⟨by omega, by omega⟩ h
        · have h := zn q h
          refine z_bipush (v := 9) X dL_sets_218 (by decide) ?_
          refine zz.pick (lo' := [(0, .ref ob)]) [0] rfl ?_
          exact bl_sets_220 X Y hml hr ⟨by omega, by omega⟩ h
      · have h := zn q h
        refine z_iload_n X dL_sets_261 rfl rfl ?_
        refine z_iconst (v := 3) X dL_sets_262 (by decide) ?_
        refine z_icmp_ne (tgt := 324) X dL_sets_263 (by decide) (fun q => ?_) (fun q => ?_)
        · have h := zp q h
          refine z_iload_n X dL_sets_266 rfl rfl ?_
          refine z_iconst (v := 3) X dL_sets_267 (by decide) ?_
          refine z_irem X dL_sets_268 (by decide) ?_
          refine z_if_ne (tgt := 276) X dL_sets_269 (by decide) (fun q => ?_) (fun q => ?_)
          · have h := zp q h
            refine z_iconst (v := (-1)) X dL_sets_272 (by decide) ?_
            refine z_goto (tgt := 283) X dL_sets_273 (by decide) ?_
            refine zz.pick (lo' := [(0, .ref ob), (2, .int (a2))]) [0, 2] rfl ?_
            exact bl_sets_283 X Y hml hr ⟨by omega, by omega⟩ h
          · have h := zn q h
            refine z_iload_n X dL_sets_276 rfl rfl ?_
            refine z_iconst (v := 3) X dL_sets_277 (by decide) ?_
            refine z_idiv X dL_sets_278 (by decide) ?_
            refine z_sipush (v := 800) X dL_sets_279 (by decide) ?_
            refine z_irem X dL_sets_282 (by decide) ?_
            refine zz.pick (lo' := [(0, .ref ob), (2, .int (a2))]) [0, 2] rfl ?_
            exact bl_sets_283 X Y hml hr ⟨by omega, by omega⟩ h
        · have h := zn q h
          refine z_iload_n X dL_sets_324 rfl rfl ?_
          refine z_iconst (v := 4) X dL_sets_325 (by decide) ?_
          refine z_icmp_ne (tgt := 404) X dL_sets_326 (by decide) (fun q => ?_) (fun q => ?_)
          · have h := zp q h
            refine z_aload_n X dL_sets_329 rfl rfl ?_
            refine z_iconst (v := 4) X dL_sets_330 (by decide) ?_
            refine z_iload_n X dL_sets_331 rfl rfl ?_
            refine z_bipush (v := 10) X dL_sets_332 (by decide) ?_
            refine z_irem X dL_sets_334 (by decide) ?_
            refine z_iload_n X dL_sets_335 rfl rfl ?_
            refine z_iconst (v := 4) X dL_sets_336 (by decide) ?_
            refine z_irem X dL_sets_337 (by decide) ?_
            refine z_iconst (v := 0) X dL_sets_338 (by decide) ?_
            obtain ⟨o3, co3, h⟩ := zb2 h
            obtain ⟨σ4, eσ4, h⟩ := zb h
            refine z_callWi (As := [.ref ob, .int (4), .int ((a2 - a2 / 10 * 10)), .int ((a3 - a3 / 4 * 4)), .int (0)]) (rest := []) (nA := 5) (mc := 3) (ms := 18) (rm := ({ frames := 15, cells := 3, slots := 18, locals := 630 } : Room)) (S := Unit) (post := fun r _ => r = o3.2 ∧ True) (G1 := fun _ => gw D dA A (o3.1, σ.2) ob ar) X Y.1 (la_setWallet l X.2.2.2.2.2.2.2.2 X.2.2.2.2.2.2.1 co3) n_390 n_391 n_0 n_392 nh_yL_asks ⟨rfl, rfl, Nat.le_of_ble_eq_true rfl, Nat.le_of_ble_eq_true rfl⟩ rfl rfl (Nat.le_of_ble_eq_true rfl) dL_sets_339 ⟨by show _ ≤ 6; omega, by show _ ≤ 1824; omega⟩ (fun r9 _ hr9 => ?_)
            obtain ⟨rfl, -⟩ := hr9
            rw [eσ4]
            obtain ⟨x5, ex5, h⟩ := zb h
            rw [ex5]
            refine z_istore (lo' := [(5, .int (x5)), (0, .ref ob), (1, .int (a1)), (2, .int (a2)), (3, .int (a3)), (4, .ref (ar 2))]) X dL_sets_342 (by rw [hml]; decide) rfl rfl ?_
            refine z_aload_n X dL_sets_344 rfl rfl ?_
            refine z_iload_n X dL_sets_345 rfl rfl ?_
            refine z_bipush (v := 10) X dL_sets_346 (by decide) ?_
            refine z_irem X dL_sets_348 (by decide) ?_
            obtain ⟨o6, co6, h⟩ := zb2 h
            refine l_q (As := [.int ((a2 - a2 / 10 * 10))]) (rest := []) (nA := 1) (mc := 0) (ms := 0) (rm := ({ frames := 7, cells := 0, slots := 0, locals := 294 } : Room)) (r0 := o6) X (fun _ h11 => cz_legOf l X.2.2.2.2.2.2.2.2 X.2.2.2.2.2.2.1 h11 (fun _ z => nomatch z) (qo_eq co6)) n_313 n_314 n_315 n_1 n_316 nh_yX11_legOf ⟨rfl, rfl, Nat.le_of_ble_eq_true rfl, Nat.le_of_ble_eq_true rfl⟩ rfl rfl (Nat.le_of_ble_eq_true rfl) dL_sets_349 ⟨by show _ ≤ 6; omega, by show _ ≤ 1824; omega⟩ ?_
            refine z_if_lt (tgt := 370) X dL_sets_352 (by decide) (fun q => ?_) (fun q => ?_)
            · have h := zp q h
              refine z_iload X dL_sets_370 rfl ?_
              refine z_if_lt (tgt := 402) X dL_sets_372 (by decide) (fun q => ?_) (fun q => ?_)
              · have h := zp q h
                refine z_iconst (v := 0) X dL_sets_402 (by decide) ?_
                obtain rfl := Option.some.inj h
                refine zz.widen (k := 6) (n := 1824) (by omega) (by omega) ?_
                exact z_iret X hr rfl (fun t hG hF _ => ⟨⟨_, (), rfl, ⟨rfl, trivial⟩, hG⟩, hF⟩) dL_sets_403
              · have h := zn q h
                refine z_iload X dL_sets_375 rfl ?_
                refine z_iconst (v := 4) X dL_sets_377 (by decide) ?_
                refine z_icmp_ge (tgt := 402) X dL_sets_378 (by decide) (fun q => ?_) (fun q => ?_)
                · have h := zp q h
                  refine z_iconst (v := 0) X dL_sets_402 (by decide) ?_
                  obtain rfl := Option.some.inj h
                  refine zz.widen (k := 6) (n := 1824) (by omega) (by omega) ?_
                  exact z_iret X hr rfl (fun t hG hF _ => ⟨⟨_, (), rfl, ⟨rfl, trivial⟩, hG⟩, hF⟩) dL_sets_403
                · have h := zn q h
                  refine z_aload_n X dL_sets_381 rfl rfl ?_
                  refine z_iload_n X dL_sets_382 rfl rfl ?_
                  refine z_bipush (v := 10) X dL_sets_383 (by decide) ?_
                  refine z_irem X dL_sets_385 (by decide) ?_
                  refine z_iload_n X dL_sets_386 rfl rfl ?_
                  refine z_iconst (v := 4) X dL_sets_387 (by decide) ?_
                  refine z_irem X dL_sets_388 (by decide) ?_
                  obtain ⟨o7, co7, h⟩ := zb2 h
                  obtain ⟨σ8, eσ8, h⟩ := zb h
                  obtain ⟨u9, ko7, jo7⟩ := vo_eq co7
                  refine l_v (As := [.int ((a2 - a2 / 10 * 10)), .int ((a3 - a3 / 4 * 4))]) (rest := []) (nA := 2) (mc := 3) (ms := 18) (rm := ({ frames := 7, cells := 3, slots := 18, locals := 294 } : Room)) (o := u9) X (fun _ h11 => cc_setWallet l X.2.2.2.2.2.2.2.2 X.2.2.2.2.2.2.1 h11 ko7) n_713 n_714 n_715 n_1 n_716 nh_yX11_setWallet ⟨rfl, rfl, Nat.le_of_ble_eq_true rfl, Nat.le_of_ble_eq_true rfl⟩ rfl rfl (Nat.le_of_ble_eq_true rfl) dL_sets_389 ⟨by show _ ≤ 6; omega, by show _ ≤ 1824; omega⟩ ?_
                  rw [show ((u9.1, σ4.1.2), σ4.2) = ((o7.1, σ4.2) : GS) by rw [jo7], show u9.2 = o7.2 by rw [jo7], eσ8]
                  refine z_iload_n X dL_sets_392 rfl rfl ?_
                  refine z_iconst (v := 4) X dL_sets_393 (by decide) ?_
                  refine z_irem X dL_sets_394 (by decide) ?_
                  refine z_icmp_ne (tgt := 402) X dL_sets_395 (by decide) (fun q => ?_) (fun q => ?_)
                  · have h := zp q h
                    refine z_iconst (v := 1) X dL_sets_398 (by decide) ?_
                    refine z_goto (tgt := 403) X dL_sets_399 (by decide) ?_
                    obtain rfl := Option.some.inj h
                    refine zz.widen (k := 6) (n := 1824) (by omega) (by omega) ?_
                    exact z_iret X hr rfl (fun t hG hF _ => ⟨⟨_, (), rfl, ⟨rfl, trivial⟩, hG⟩, hF⟩) dL_sets_403
                  · have h := zn q h
                    refine z_iconst (v := 0) X dL_sets_402 (by decide) ?_
                    obtain rfl := Option.some.inj h
                    refine zz.widen (k := 6) (n := 1824) (by omega) (by omega) ?_
                    exact z_iret X hr rfl (fun t hG hF _ => ⟨⟨_, (), rfl, ⟨rfl, trivial⟩, hG⟩, hF⟩) dL_sets_403
            · have h := zn q h
              refine z_iload X dL_sets_355 rfl ?_
              refine z_bipush (v := (-108)) X dL_sets_357 (by decide) ?_
              refine z_icmp_ne (tgt := 366) X dL_sets_359 (by decide) (fun q => ?_) (fun q => ?_)
              · have h := zp q h
                refine z_iconst (v := 1) X dL_sets_362 (by decide) ?_
                refine z_goto (tgt := 403) X dL_sets_363 (by decide) ?_
                obtain rfl := Option.some.inj h
                refine zz.widen (k := 6) (n := 1824) (by omega) (by omega) ?_
                exact z_iret X hr rfl (fun t hG hF _ => ⟨⟨_, (), rfl, ⟨rfl, trivial⟩, hG⟩, hF⟩) dL_sets_403
              · have h := zn q h
                refine z_iconst (v := 0) X dL_sets_366 (by decide) ?_
                refine z_goto (tgt := 403) X dL_sets_367 (by decide) ?_
                obtain rfl := Option.some.inj h
                refine zz.widen (k := 6) (n := 1824) (by omega) (by omega) ?_
                exact z_iret X hr rfl (fun t hG hF _ => ⟨⟨_, (), rfl, ⟨rfl, trivial⟩, hG⟩, hF⟩) dL_sets_403
          · have h := zn q h
            refine z_aload_n X dL_sets_404 rfl rfl ?_
            refine z_iconst (v := 5) X dL_sets_405 (by decide) ?_
            refine z_iload_n X dL_sets_406 rfl rfl ?_
            refine z_bipush (v := 8) X dL_sets_407 (by decide) ?_
            refine z_irem X dL_sets_409 (by decide) ?_
            refine z_iload_n X dL_sets_410 rfl rfl ?_
            refine z_iconst (v := 3) X dL_sets_411 (by decide) ?_
            refine z_irem X dL_sets_412 (by decide) ?_
            refine z_iconst (v := 0) X dL_sets_413 (by decide) ?_
            obtain ⟨o10, co10, h⟩ := zb2 h
            obtain ⟨σ11, eσ11, h⟩ := zb h
            refine z_callWi (As := [.ref ob, .int (5), .int ((a2 - a2 / 8 * 8)), .int ((a3 - a3 / 3 * 3)), .int (0)]) (rest := []) (nA := 5) (mc := 2) (ms := 12) (rm := ({ frames := 15, cells := 2, slots := 12, locals := 630 } : Room)) (S := Unit) (post := fun r _ => r = o10.2 ∧ True) (G1 := fun _ => gw D dA A (o10.1, σ.2) ob ar) X Y.1 (la_setZone l X.2.2.2.2.2.2.2.2 X.2.2.2.2.2.2.1 co10) n_390 n_391 n_0 n_392 nh_yL_asks ⟨rfl, rfl, Nat.le_of_ble_eq_true rfl, Nat.le_of_ble_eq_true rfl⟩ rfl rfl (Nat.le_of_ble_eq_true rfl) dL_sets_414 ⟨by show _ ≤ 6; omega, by show _ ≤ 1824; omega⟩ (fun r9 _ hr9 => ?_)
            obtain ⟨rfl, -⟩ := hr9
            rw [eσ11]
            obtain ⟨x12, ex12, h⟩ := zb h
            rw [ex12]
            refine z_istore (lo' := [(5, .int (x12)), (0, .ref ob), (1, .int (a1)), (2, .int (a2)), (3, .int (a3)), (4, .ref (ar 2))]) X dL_sets_417 (by rw [hml]; decide) rfl rfl ?_
            refine z_aload X dL_sets_419 rfl ?_
            refine z_iconst (v := 1) X dL_sets_421 (by decide) ?_
            refine l_ald X 2 rfl (by decide) dL_sets_422 ?_
            refine z_if_le (tgt := 441) X dL_sets_423 (by decide) (fun q => ?_) (fun q => ?_)
            · have h := zp q h
              refine z_iload X dL_sets_441 rfl ?_
              refine z_if_lt (tgt := 473) X dL_sets_443 (by decide) (fun q => ?_) (fun q => ?_)
              · have h := zp q h
                refine z_iconst (v := 0) X dL_sets_473 (by decide) ?_
                obtain rfl := Option.some.inj h
                refine zz.widen (k := 6) (n := 1824) (by omega) (by omega) ?_
                exact z_iret X hr rfl (fun t hG hF _ => ⟨⟨_, (), rfl, ⟨rfl, trivial⟩, hG⟩, hF⟩) dL_sets_474
              · have h := zn q h
                refine z_iload X dL_sets_446 rfl ?_
                refine z_iconst (v := 3) X dL_sets_448 (by decide) ?_
                refine z_icmp_ge (tgt := 473) X dL_sets_449 (by decide) (fun q => ?_) (fun q => ?_)
                · have h := zp q h
                  refine z_iconst (v := 0) X dL_sets_473 (by decide) ?_
                  obtain rfl := Option.some.inj h
                  refine zz.widen (k := 6) (n := 1824) (by omega) (by omega) ?_
                  exact z_iret X hr rfl (fun t hG hF _ => ⟨⟨_, (), rfl, ⟨rfl, trivial⟩, hG⟩, hF⟩) dL_sets_474
                · have h := zn q h
                  refine z_aload_n X dL_sets_452 rfl rfl ?_
                  refine z_iload_n X dL_sets_453 rfl rfl ?_
                  refine z_bipush (v := 8) X dL_sets_454 (by decide) ?_
                  refine z_irem X dL_sets_456 (by decide) ?_
                  refine z_iload_n X dL_sets_457 rfl rfl ?_
                  refine z_iconst (v := 3) X dL_sets_458 (by decide) ?_
                  refine z_irem X dL_sets_459 (by decide) ?_
                  obtain ⟨o13, co13, h⟩ := zb2 h
                  obtain ⟨σ14, eσ14, h⟩ := zb h
                  obtain ⟨u15, ko13, jo13⟩ := vo_eq co13
                  refine l_v (As := [.int ((a2 - a2 / 8 * 8)), .int ((a3 - a3 / 3 * 3))]) (rest := []) (nA := 2) (mc := 2) (ms := 12) (rm := ({ frames := 9, cells := 2, slots := 12, locals := 378 } : Room)) (o := u15) X (fun _ h11 => cc_setZone l X.2.2.2.2.2.2.2.2 X.2.2.2.2.2.2.1 h11 ko13) n_718 n_719 n_720 n_1 n_721 nh_yX11_setZone ⟨rfl, rfl, Nat.le_of_ble_eq_true rfl, Nat.le_of_ble_eq_true rfl⟩ rfl rfl (Nat.le_of_ble_eq_true rfl) dL_sets_460 ⟨by show _ ≤ 6; omega, by show _ ≤ 1824; omega⟩ ?_
                  rw [show ((u15.1, σ11.1.2), σ11.2) = ((o13.1, σ11.2) : GS) by rw [jo13], show u15.2 = o13.2 by rw [jo13], eσ14]
                  refine z_iload_n X dL_sets_463 rfl rfl ?_
                  refine z_iconst (v := 3) X dL_sets_464 (by decide) ?_
                  refine z_irem X dL_sets_465 (by decide) ?_
                  refine z_icmp_ne (tgt := 473) X dL_sets_466 (by decide) (fun q => ?_) (fun q => ?_)
                  · have h := zp q h
                    refine z_iconst (v := 1) X dL_sets_469 (by decide) ?_
                    refine z_goto (tgt := 474) X dL_sets_470 (by decide) ?_
                    obtain rfl := Option.some.inj h
                    refine zz.widen (k := 6) (n := 1824) (by omega) (by omega) ?_
                    exact z_iret X hr rfl (fun t hG hF _ => ⟨⟨_, (), rfl, ⟨rfl, trivial⟩, hG⟩, hF⟩) dL_sets_474
                  · have h := zn q h
                    refine z_iconst (v := 0) X dL_sets_473 (by decide) ?_
                    obtain rfl := Option.some.inj h
                    refine zz.widen (k := 6) (n := 1824) (by omega) (by omega) ?_
                    exact z_iret X hr rfl (fun t hG hF _ => ⟨⟨_, (), rfl, ⟨rfl, trivial⟩, hG⟩, hF⟩) dL_sets_474
            · have h := zn q h
              refine z_iload X dL_sets_426 rfl ?_
              refine z_bipush (v := (-108)) X dL_sets_428 (by decide) ?_
              refine z_icmp_ne (tgt := 437) X dL_sets_430 (by decide) (fun q => ?_) (fun q => ?_)
              · have h := zp q h
                refine z_iconst (v := 1) X dL_sets_433 (by decide) ?_
                refine z_goto (tgt := 474) X dL_sets_434 (by decide) ?_
                obtain rfl := Option.some.inj h
                refine zz.widen (k := 6) (n := 1824) (by omega) (by omega) ?_
                exact z_iret X hr rfl (fun t hG hF _ => ⟨⟨_, (), rfl, ⟨rfl, trivial⟩, hG⟩, hF⟩) dL_sets_474
              · have h := zn q h
                refine z_iconst (v := 0) X dL_sets_437 (by decide) ?_
                refine z_goto (tgt := 474) X dL_sets_438 (by decide) ?_
                obtain rfl := Option.some.inj h
                refine zz.widen (k := 6) (n := 1824) (by omega) (by omega) ?_
                exact z_iret X hr rfl (fun t hG hF _ => ⟨⟨_, (), rfl, ⟨rfl, trivial⟩, hG⟩, hF⟩) dL_sets_474
theorem ll_sets (l : Launch) {D : va_G} {dA : Nat → ClassId} {A : Nat → Prop} {n : Nat} {ar : Nat → Nat} {ob b Ls : Nat} {sc : Nat → Int32} (hst : l.stackTraces = false) (hA : ∀ q, n ≤ q → A q) (hbA : ¬ A b) {σ : GS} {a1 : Int32} {a2 : Int32} {a3 : Int32} {o : GS × Int32} (h : fl_sets σ a1 a2 a3 = some o) : Met l yL_sets (.code yL_sets cL_sets 8 (some .boolean) :: gT) ({ frames := 16, cells := 6, slots := 1824, locals := 672 } : Room) (va_Pc [.ref ob, .int (a1), .int (a2), .int (a3), .ref (ar 2)] (zBL D dA A n b Ls sc (gw D dA A σ ob ar))) (va_Qi (fun r (_ : Unit) => r = o.2 ∧ True) (fun _ t => gw D dA A o.1 ob ar t.heap) A) (6) (1824) A :=
  z_metL (by decide) hA hbA hst (Nat.le_of_ble_eq_true rfl) rfl rfl (fun p e s m below meth c X Y hml hr => bl_sets X Y hml hr ⟨by omega, by omega⟩ h)
-- lives(LMeshBiller;I[I)Z
def fl_lives_98 (d : Nat) (k73 : GS → Int32 → Int32 → Int32 → Int32 → Option (GS × Int32)) (σ : GS) (v3 : Int32) (v5 : Int32) (v6 : Int32) (s0 : Int32) (s1 : Int32) : Option (GS × Int32) := (some ((s0 + s1))).bind fun x1 => (some (v6 + 1)).bind fun x2 => k73 σ v3 x1 v5 x2
set_option maxRecDepth 100000 in
set_option maxHeartbeats 4000000 in
theorem bl_lives_98 {p : Program} {l : Launch} {e : Env} {s : State} {m : MethodId} {args : Array Value} {below : List Frame} {meth : Method} {c : Code} {D : va_G} {dA : Nat → ClassId} {A : Nat → Prop} {ar : Nat → Nat} {ob b Ls : Nat} {sc : Nat → Int32} {d : Nat} {o : GS × Int32} (X : zc p l s m args meth c cL_lives RL D dA A) (Y : zY s A b Ls sc) (hml : c.maxLocals = 7) (hr : meth.sig.returnType = (some .boolean)) {k73 : GS → Int32 → Int32 → Int32 → Int32 → Option (GS × Int32)} (hk73 : ∀ {σ : GS} {v3 : Int32} {v4 : Int32} {v5 : Int32} {v6 : Int32}, k73 σ v3 v4 v5 v6 = some o → zz p l e ({ frames := 16, cells := 4 * d + 1, slots := 1826 * d + 6, locals := 672 } : Room) s m args below meth c A (gw D dA A σ ob ar) cells slots (MQ below (va_Qi (fun r (_ : Unit) => r = o.2 ∧ True) (fun _ t => gw D dA A o.1 ob ar t.heap) A) args s (4 * d + 1) (1826 * d + 6) A) 73 [(0, .ref ob), (2, .ref (ar 2)), (3, .int (v3)), (4, .int (v4)), (5, .int (v5)), (6, .int (v6))] [] []) {cells slots : Nat} (hcs : cells + (0) ≤ 4 * d + 1 ∧ slots + (0) ≤ 1826 * d + 6) {σ : GS} {v3 : Int32} {v5 : Int32} {v6 : Int32} {s0 : Int32} {s1 : Int32} (h : fl_lives_98 d k73 σ v3 v5 v6 s0 s1 = some o) : zz p l e ({ frames := 16, cells := 4 * d + 1, slots := 1826 * d + 6, locals := 672 } : Room) s m args below meth c A (gw D dA A σ ob ar) cells slots (MQ below (va_Qi (fun r (_ : Unit) => r = o.2 ∧ True) (fun _ t => gw D dA A o.1 ob ar t.heap) A) args s (4 * d + 1) (1826 * d + 6) A) 98 [(0, .ref ob), (2, .ref (ar 2)), (3, .int (v3)), (5, .int (v5)), (6, .int (v6))] [] [.int (s1), .int (s0)] := by
  obtain ⟨hcs1, hcs2⟩ := hcs
  unfold fl_lives_98 at h
  refine z_iadd X dL_lives_98 ?_
  obtain ⟨x1, ex1, h⟩ := zb h
  rw [ex1]
  refine z_istore (lo' := [(4, .int (x1)), (0, .ref ob), (2, .ref (ar 2)), (3, .int (v3)), (5, .int (v5)), (6, .int (v6))]) X dL_lives_99 (by rw [hml]; decide) rfl rfl ?_
  obtain ⟨x2, ex2, h⟩ := zb h
  refine z_iinc (v := x2) (lo' := [(6, .int (x2)), (4, .int (x1)), (0, .ref ob), (2, .ref (ar 2)), (3, .int (v3)), (5, .int (v5))]) X dL_lives_101 rfl ex2 (by rw [hml]; decide) rfl rfl ?_
  refine z_goto (tgt := 73) X dL_lives_104 (by decide) ?_
  refine zz.pick (lo' := [(0, .ref ob), (2, .ref (ar 2)), (3, .int (v3)), (4, .int (x1)), (5, .int (v5)), (6, .int (x2))]) [0, 2, 3, 4, 5, 6] rfl ?_
  exact hk73  h
def fl_lives_73 (d : Nat) : Nat → GS → Int32 → Int32 → Int32 → Int32 → Option (GS × Int32)
  | 0, _, _, _, _, _ => none
  | n + 1, σ, v3, v4, v5, v6 => (if (σ.2 2 (2).toNatClampNeg) ≤ v6 then if 0 < 0 ∨ 5 ≤ (0).toNatClampNeg then none else (some ((σ.1, cs σ.2 2 (0).toNatClampNeg (((σ.2 2 (0).toNatClampNeg) + v3))) : GS)).bind fun σ1 => (if v5 = v4 then some (σ1, 1)
  else some (σ1, 0))
  else (aq_stateOf σ.1 (v6)).bind fun o3 => (if o3 = 2 then fl_lives_98 (fl_lives_73 n) σ v3 v5 v6 v4 1
  else fl_lives_98 (fl_lives_73 n) σ v3 v5 v6 v4 0))
set_option maxRecDepth 100000 in
set_option maxHeartbeats 4000000 in
theorem bl_lives_73 {p : Program} {l : Launch} {e : Env} {s : State} {m : MethodId} {args : Array Value} {below : List Frame} {meth : Method} {c : Code} {D : va_G} {dA : Nat → ClassId} {A : Nat → Prop} {ar : Nat → Nat} {ob b Ls : Nat} {sc : Nat → Int32} {d : Nat} {o : GS × Int32} (X : zc p l s m args meth c cL_lives RL D dA A) (Y : zY s A b Ls sc) (hml : c.maxLocals = 7) (hr : meth.sig.returnType = (some .boolean)) : ∀ (n : Nat) {cells slots : Nat} (hcs : cells + (0) ≤ 4 * d + 1 ∧ slots + (0) ≤ 1826 * d + 6) {σ : GS} {v3 : Int32} {v4 : Int32} {v5 : Int32} {v6 : Int32}, fl_lives_73 d n σ v3 v4 v5 v6 = some o → zz p l e ({ frames := 16, cells := 4 * d + 1, slots := 1826 * d + 6, locals := 672 } : Room) s m args below meth c A (gw D dA A σ ob ar) cells slots (MQ below (va_Qi (fun r (_ : Unit) => r = o.2 ∧ True) (fun _ t => gw D dA A o.1 ob ar t.heap) A) args s (4 * d + 1) (1826 * d + 6) A) 73 [(0, .ref ob), (2, .ref (ar 2)), (3, .int (v3)), (4, .int (v4)), (5, .int (v5)), (6, .int (v6))] [] [] := by
  intro n
  induction n with
  | zero => intro cells slots hcs σ v3 v4 v5 v6 h; exact (nomatch (show none = some o from h))
  | succ n ih =>
    intro cells slots hcs σ v3 v4 v5 v6 h
    obtain ⟨hcs1, hcs2⟩ := hcs
    rw [fl_lives_73] at h
    refine z_iload X dL_lives_73 rfl ?_
    refine z_aload_n X dL_lives_75 rfl rfl ?_
    refine z_iconst (v := 2) X dL_lives_76 (by decide) ?_
    refine l_ald X 2 rfl (by decide) dL_lives_77 ?_
    refine z_icmp_ge (tgt := 107) X dL_lives_78 (by decide) (fun q => ?_) (fun q => ?_)
    · have h := zp q h
      refine z_aload_n X dL_lives_107 rfl rfl ?_
      refine z_iconst (v := 0) X dL_lives_108 (by decide) ?_
      refine z_dup2 X dL_lives_109 rfl rfl ?_
      refine l_ald X 2 rfl (by decide) dL_lives_110 ?_
      refine z_iload_n X dL_lives_111 rfl rfl ?_
      refine z_iadd X dL_lives_112 ?_
      obtain ⟨q2, h⟩ := zg h
      obtain ⟨σ1, eσ1, h⟩ := zb h
      refine l_ast X 2 rfl q2 eσ1 dL_lives_113 ?_
      refine z_iload X dL_lives_114 rfl ?_
      refine z_iload X dL_lives_116 rfl ?_
      refine z_icmp_ne (tgt := 125) X dL_lives_118 (by decide) (fun q => ?_) (fun q => ?_)
      · have h := zp q h
        refine z_iconst (v := 1) X dL_lives_121 (by decide) ?_
        refine z_goto (tgt := 126) X dL_lives_122 (by decide) ?_
        obtain rfl := Option.some.inj h
        refine zz.widen (k := 4 * d + 1) (n := 1826 * d + 6) (by omega) (by omega) ?_
        exact z_iret X hr rfl (fun t hG hF _ => ⟨⟨_, (), rfl, ⟨rfl, trivial⟩, hG⟩, hF⟩) dL_lives_126
      · have h := zn q h
        refine z_iconst (v := 0) X dL_lives_125 (by decide) ?_
        obtain rfl := Option.some.inj h
        refine zz.widen (k := 4 * d + 1) (n := 1826 * d + 6) (by omega) (by omega) ?_
        exact z_iret X hr rfl (fun t hG hF _ => ⟨⟨_, (), rfl, ⟨rfl, trivial⟩, hG⟩, hF⟩) dL_lives_126
    · have h := zn q h
      refine z_iload X dL_lives_81 rfl ?_
      refine z_aload_n X dL_lives_83 rfl rfl ?_
      refine z_iload X dL_lives_84 rfl ?_
      obtain ⟨o3, co3, h⟩ := zb2 h
      refine l_q (As := [.int (v6)]) (rest := [.int (v4)]) (nA := 1) (mc := 0) (ms := 0) (rm := ({ frames := 10, cells := 0, slots := 0, locals := 420 } : Room)) (r0 := o3) X (fun _ h11 => cz_stateOf l X.2.2.2.2.2.2.2.2 X.2.2.2.2.2.2.1 h11 (fun _ z => nomatch z) (qo_eq co3)) n_775 n_776 n_777 n_1 n_778 nh_yX11_stateOf ⟨rfl, rfl, Nat.le_of_ble_eq_true rfl, Nat.le_of_ble_eq_true rfl⟩ rfl rfl (Nat.le_of_ble_eq_true rfl) dL_lives_86 ⟨by show _ ≤ 4 * d + 1; omega, by show _ ≤ 1826 * d + 6; omega⟩ ?_
      refine z_iconst (v := 2) X dL_lives_89 (by decide) ?_
      refine z_icmp_ne (tgt := 97) X dL_lives_90 (by decide) (fun q => ?_) (fun q => ?_)
      · have h := zp q h
        refine z_iconst (v := 1) X dL_lives_93 (by decide) ?_
        refine z_goto (tgt := 98) X dL_lives_94 (by decide) ?_
        refine zz.pick (lo' := [(0, .ref ob), (2, .ref (ar 2)), (3, .int (v3)), (5, .int (v5)), (6, .int (v6))]) [0, 2, 3, 5, 6] rfl ?_
        exact bl_lives_98 X Y hml hr ih ⟨by omega, by omega⟩ h
      · have h := zn q h
        refine z_iconst (v := 0) X dL_lives_97 (by decide) ?_
        refine zz.pick (lo' := [(0, .ref ob), (2, .ref (ar 2)), (3, .int (v3)), (5, .int (v5)), (6, .int (v6))]) [0, 2, 3, 5, 6] rfl ?_
        exact bl_lives_98 X Y hml hr ih ⟨by omega, by omega⟩ h
def fl_lives_50 (d : Nat) (k25 : GS → Int32 → Int32 → Int32 → Option (GS × Int32)) (σ : GS) (v3 : Int32) (v5 : Int32) (s0 : Int32) (s1 : Int32) : Option (GS × Int32) := (some ((s0 - s1))).bind fun x1 => (some (v5 + 1)).bind fun x2 => k25 σ v3 x1 x2
set_option maxRecDepth 100000 in
set_option maxHeartbeats 4000000 in
theorem bl_lives_50 {p : Program} {l : Launch} {e : Env} {s : State} {m : MethodId} {args : Array Value} {below : List Frame} {meth : Method} {c : Code} {D : va_G} {dA : Nat → ClassId} {A : Nat → Prop} {ar : Nat → Nat} {ob b Ls : Nat} {sc : Nat → Int32} {d : Nat} {o : GS × Int32} (X : zc p l s m args meth c cL_lives RL D dA A) (Y : zY s A b Ls sc) (hml : c.maxLocals = 7) (hr : meth.sig.returnType = (some .boolean)) {k25 : GS → Int32 → Int32 → Int32 → Option (GS × Int32)} (hk25 : ∀ {σ : GS} {v3 : Int32} {v4 : Int32} {v5 : Int32}, k25 σ v3 v4 v5 = some o → zz p l e ({ frames := 16, cells := 4 * d + 1, slots := 1826 * d + 6, locals := 672 } : Room) s m args below meth c A (gw D dA A σ ob ar) cells slots (MQ below (va_Qi (fun r (_ : Unit) => r = o.2 ∧ True) (fun _ t => gw D dA A o.1 ob ar t.heap) A) args s (4 * d + 1) (1826 * d + 6) A) 25 [(0, .ref ob), (2, .ref (ar 2)), (3, .int (v3)), (4, .int (v4)), (5, .int (v5))] [] []) {cells slots : Nat} (hcs : cells + (4 * d + 0) ≤ 4 * d + 1 ∧ slots + (1826 * d + 0) ≤ 1826 * d + 6) {σ : GS} {v3 : Int32} {v5 : Int32} {s0 : Int32} {s1 : Int32} (h : fl_lives_50 d k25 σ v3 v5 s0 s1 = some o) : zz p l e ({ frames := 16, cells := 4 * d + 1, slots := 1826 * d + 6, locals := 672 } : Room) s m args below meth c A (gw D dA A σ ob ar) cells slots (MQ below (va_Qi (fun r (_ : Unit) => r = o.2 ∧ True) (fun _ t => gw D dA A o.1 ob ar t.heap) A) args s (4 * d + 1) (1826 * d + 6) A) 50 [(0, .ref ob), (2, .ref (ar 2)), (3, .int (v3)), (5, .int (v5))] [] [.int (s1), .int (s0)] := by
  obtain ⟨hcs1, hcs2⟩ := hcs
  unfold fl_lives_50 at h
  refine z_isub X dL_lives_50 ?_
  obtain ⟨x1, ex1, h⟩ := zb h
  rw [ex1]
  refine z_istore (lo' := [(4, .int (x1)), (0, .ref ob), (2, .ref (ar 2)), (3, .int (v3)), (5, .int (v5))]) X dL_lives_51 (by rw [hml]; decide) rfl rfl ?_
  obtain ⟨x2, ex2, h⟩ := zb h
  refine z_iinc (v := x2) (lo' := [(5, .int (x2)), (4, .int (x1)), (0, .ref ob), (2, .ref (ar 2)), (3, .int (v3))]) X dL_lives_53 rfl ex2 (by rw [hml]; decide) rfl rfl ?_
  refine z_goto (tgt := 25) X dL_lives_56 (by decide) ?_
  refine zz.pick (lo' := [(0, .ref ob), (2, .ref (ar 2)), (3, .int (v3)), (4, .int (x1)), (5, .int (x2))]) [0, 2, 3, 4, 5] rfl ?_
  exact hk25  h
def fl_lives_25 (d : Nat) : Nat → GS → Int32 → Int32 → Int32 → Option (GS × Int32)
  | 0, _, _, _, _ => none
  | n + 1, σ, v3, v4, v5 => (if (σ.2 2 (2).toNatClampNeg) ≤ v5 then (ak_pass σ.1 (v3) (0) (0)).bind fun o1 => if ¬ (o1.2 = nI d ∧ d ≤ 9000000) then none else (some ((o1.1, σ.2) : GS)).bind fun σ2 => (some (o1.2)).bind fun x4 => fl_lives_73 FU σ2 v3 v4 x4 0
  else (aq_stateOf σ.1 (v5)).bind fun o5 => (if o5 = 2 then fl_lives_50 (fl_lives_25 n) σ v3 v5 v4 1
  else fl_lives_50 (fl_lives_25 n) σ v3 v5 v4 0))
set_option maxRecDepth 100000 in
set_option maxHeartbeats 4000000 in
theorem bl_lives_25 {p : Program} {l : Launch} {e : Env} {s : State} {m : MethodId} {args : Array Value} {below : List Frame} {meth : Method} {c : Code} {D : va_G} {dA : Nat → ClassId} {A : Nat → Prop} {ar : Nat → Nat} {ob b Ls : Nat} {sc : Nat → Int32} {d : Nat} {o : GS × Int32} (X : zc p l s m args meth c cL_lives RL D dA A) (Y : zY s A b Ls sc) (hml : c.maxLocals = 7) (hr : meth.sig.returnType = (some .boolean)) : ∀ (n : Nat) {cells slots : Nat} (hcs : cells + (4 * d + 1) ≤ 4 * d + 1 ∧ slots + (1826 * d + 6) ≤ 1826 * d + 6) {σ : GS} {v3 : Int32} {v4 : Int32} {v5 : Int32}, fl_lives_25 d n σ v3 v4 v5 = some o → zz p l e ({ frames := 16, cells := 4 * d + 1, slots := 1826 * d + 6, locals := 672 } : Room) s m args below meth c A (gw D dA A σ ob ar) cells slots (MQ below (va_Qi (fun r (_ : Unit) => r = o.2 ∧ True) (fun _ t => gw D dA A o.1 ob ar t.heap) A) args s (4 * d + 1) (1826 * d + 6) A) 25 [(0, .ref ob), (2, .ref (ar 2)), (3, .int (v3)), (4, .int (v4)), (5, .int (v5))] [] [] := by
  intro n
  induction n with
  | zero => intro cells slots hcs σ v3 v4 v5 h; exact (nomatch (show none = some o from h))
  | succ n ih =>
    intro cells slots hcs σ v3 v4 v5 h
    obtain ⟨hcs1, hcs2⟩ := hcs
    rw [fl_lives_25] at h
    refine z_iload X dL_lives_25 rfl ?_
    refine z_aload_n X dL_lives_27 rfl rfl ?_
    refine z_iconst (v := 2) X dL_lives_28 (by decide) ?_
    refine l_ald X 2 rfl (by decide) dL_lives_29 ?_
    refine z_icmp_ge (tgt := 59) X dL_lives_30 (by decide) (fun q => ?_) (fun q => ?_)
    · have h := zp q h
      refine z_aload_n X dL_lives_59 rfl rfl ?_
      refine z_bipush (v := 6) X dL_lives_60 (by decide) ?_
      refine z_iload_n X dL_lives_62 rfl rfl ?_
      refine z_iconst (v := 0) X dL_lives_63 (by decide) ?_
      refine z_iconst (v := 0) X dL_lives_64 (by decide) ?_
      obtain ⟨o1, co1, h⟩ := zb2 h
      obtain ⟨q3, h⟩ := zg h
      replace q3 := Decidable.not_not.mp q3
      obtain ⟨σ2, eσ2, h⟩ := zb h
      refine z_callWi (As := [.ref ob, .int (6), .int (v3), .int (0), .int (0)]) (rest := []) (nA := 5) (mc := 4 * d + 1) (ms := 1826 * d + 6) (rm := ({ frames := 15, cells := 4 * d + 1, slots := 1826 * d + 6, locals := 630 } : Room)) (S := Unit) (post := fun r _ => r = o1.2 ∧ True) (G1 := fun _ => gw D dA A (o1.1, σ.2) ob ar) X Y.1 (la_pass l X.2.2.2.2.2.2.2.2 X.2.2.2.2.2.2.1 q3.1 q3.2 co1) n_390 n_391 n_0 n_392 nh_yL_asks ⟨rfl, rfl, Nat.le_of_ble_eq_true rfl, Nat.le_of_ble_eq_true rfl⟩ rfl rfl (Nat.le_of_ble_eq_true rfl) dL_lives_65 ⟨by show _ ≤ 4 * d + 1; omega, by show _ ≤ 1826 * d + 6; omega⟩ (fun r9 _ hr9 => ?_)
      obtain ⟨rfl, -⟩ := hr9
      rw [eσ2]
      obtain ⟨x4, ex4, h⟩ := zb h
      rw [ex4]
      refine z_istore (lo' := [(5, .int (x4)), (0, .ref ob), (2, .ref (ar 2)), (3, .int (v3)), (4, .int (v4))]) X dL_lives_68 (by rw [hml]; decide) rfl rfl ?_
      refine z_iconst (v := 0) X dL_lives_70 (by decide) ?_
      refine z_istore (lo' := [(6, .int (0)), (5, .int (x4)), (0, .ref ob), (2, .ref (ar 2)), (3, .int (v3)), (4, .int (v4))]) X dL_lives_71 (by rw [hml]; decide) rfl rfl ?_
      refine zz.pick (lo' := [(0, .ref ob), (2, .ref (ar 2)), (3, .int (v3)), (4, .int (v4)), (5, .int (x4)), (6, .int (0))]) [0, 2, 3, 4, 5, 6] rfl ?_
      exact bl_lives_73 X Y hml hr FU ⟨by omega, by omega⟩ h
    · have h := zn q h
      refine z_iload X dL_lives_33 rfl ?_
      refine z_aload_n X dL_lives_35 rfl rfl ?_
      refine z_iload X dL_lives_36 rfl ?_
      obtain ⟨o5, co5, h⟩ := zb2 h
      refine l_q (As := [.int (v5)]) (rest := [.int (v4)]) (nA := 1) (mc := 0) (ms := 0) (rm := ({ frames := 10, cells := 0, slots := 0, locals := 420 } : Room)) (r0 := o5) X (fun _ h11 => cz_stateOf l X.2.2.2.2.2.2.2.2 X.2.2.2.2.2.2.1 h11 (fun _ z => nomatch z) (qo_eq co5)) n_775 n_776 n_777 n_1 n_778 nh_yX11_stateOf ⟨rfl, rfl, Nat.le_of_ble_eq_true rfl, Nat.le_of_ble_eq_true rfl⟩ rfl rfl (Nat.le_of_ble_eq_true rfl) dL_lives_38 ⟨by show _ ≤ 4 * d + 1; omega, by show _ ≤ 1826 * d + 6; omega⟩ ?_
      refine z_iconst (v := 2) X dL_lives_41 (by decide) ?_
      refine z_icmp_ne (tgt := 49) X dL_lives_42 (by decide) (fun q => ?_) (fun q => ?_)
      · have h := zp q h
        refine z_iconst (v := 1) X dL_lives_45 (by decide) ?_
        refine z_goto (tgt := 50) X dL_lives_46 (by decide) ?_
        refine zz.pick (lo' := [(0, .ref ob), (2, .ref (ar 2)), (3, .int (v3)), (5, .int (v5))]) [0, 2, 3, 5] rfl ?_
        exact bl_lives_50 X Y hml hr ih ⟨by omega, by omega⟩ h
      · have h := zn q h
        refine z_iconst (v := 0) X dL_lives_49 (by decide) ?_
        refine zz.pick (lo' := [(0, .ref ob), (2, .ref (ar 2)), (3, .int (v3)), (5, .int (v5))]) [0, 2, 3, 5] rfl ?_
        exact bl_lives_50 X Y hml hr ih ⟨by omega, by omega⟩ h
def fl_lives_16 (d : Nat) (σ : GS) (s0 : Int32) (s1 : Int32) (s2 : Int32) : Option (GS × Int32) := if s2 = 0 then none else (some ((s0 + (s1 - s1 / s2 * s2)))).bind fun x2 => fl_lives_25 FU σ x2 0 0
set_option maxRecDepth 100000 in
set_option maxHeartbeats 4000000 in
theorem bl_lives_16 {p : Program} {l : Launch} {e : Env} {s : State} {m : MethodId} {args : Array Value} {below : List Frame} {meth : Method} {c : Code} {D : va_G} {dA : Nat → ClassId} {A : Nat → Prop} {ar : Nat → Nat} {ob b Ls : Nat} {sc : Nat → Int32} {d : Nat} {o : GS × Int32} (X : zc p l s m args meth c cL_lives RL D dA A) (Y : zY s A b Ls sc) (hml : c.maxLocals = 7) (hr : meth.sig.returnType = (some .boolean)) {cells slots : Nat} (hcs : cells + (4 * d + 1) ≤ 4 * d + 1 ∧ slots + (1826 * d + 6) ≤ 1826 * d + 6) {σ : GS} {s0 : Int32} {s1 : Int32} {s2 : Int32} (h : fl_lives_16 d σ s0 s1 s2 = some o) : zz p l e ({ frames := 16, cells := 4 * d + 1, slots := 1826 * d + 6, locals := 672 } : Room) s m args below meth c A (gw D dA A σ ob ar) cells slots (MQ below (va_Qi (fun r (_ : Unit) => r = o.2 ∧ True) (fun _ t => gw D dA A o.1 ob ar t.heap) A) args s (4 * d + 1) (1826 * d + 6) A) 16 [(0, .ref ob), (2, .ref (ar 2))] [] [.int (s2), .int (s1), .int (s0)] := by
  obtain ⟨hcs1, hcs2⟩ := hcs
  unfold fl_lives_16 at h
  obtain ⟨q1, h⟩ := zg h
  refine z_irem X dL_lives_16 q1 ?_
  refine z_iadd X dL_lives_17 ?_
  obtain ⟨x2, ex2, h⟩ := zb h
  rw [ex2]
  refine z_istore_n (lo' := [(3, .int (x2)), (0, .ref ob), (2, .ref (ar 2))]) X dL_lives_18 rfl (by rw [hml]; decide) rfl rfl ?_
  refine z_iconst (v := 0) X dL_lives_19 (by decide) ?_
  refine z_istore (lo' := [(4, .int (0)), (3, .int (x2)), (0, .ref ob), (2, .ref (ar 2))]) X dL_lives_20 (by rw [hml]; decide) rfl rfl ?_
  refine z_iconst (v := 0) X dL_lives_22 (by decide) ?_
  refine z_istore (lo' := [(5, .int (0)), (4, .int (0)), (3, .int (x2)), (0, .ref ob), (2, .ref (ar 2))]) X dL_lives_23 (by rw [hml]; decide) rfl rfl ?_
  refine zz.pick (lo' := [(0, .ref ob), (2, .ref (ar 2)), (3, .int (x2)), (4, .int (0)), (5, .int (0))]) [0, 2, 3, 4, 5] rfl ?_
  exact bl_lives_25 X Y hml hr FU ⟨by omega, by omega⟩ h
def fl_lives (d : Nat) (σ : GS) (a1 : Int32) : Option (GS × Int32) := (if (a1 - a1 / 5 * 5) = 0 then fl_lives_16 σ 1 a1 200
  else fl_lives_16 σ 1 a1 9)
set_option maxRecDepth 100000 in
set_option maxHeartbeats 4000000 in
theorem bl_lives {p : Program} {l : Launch} {e : Env} {s : State} {m : MethodId} {args : Array Value} {below : List Frame} {meth : Method} {c : Code} {D : va_G} {dA : Nat → ClassId} {A : Nat → Prop} {ar : Nat → Nat} {ob b Ls : Nat} {sc : Nat → Int32} {d : Nat} {o : GS × Int32} (X : zc p l s m args meth c cL_lives RL D dA A) (Y : zY s A b Ls sc) (hml : c.maxLocals = 7) (hr : meth.sig.returnType = (some .boolean)) {cells slots : Nat} (hcs : cells + (4 * d + 1) ≤ 4 * d + 1 ∧ slots + (1826 * d + 6) ≤ 1826 * d + 6) {σ : GS} {a1 : Int32} (h : fl_lives d σ a1 = some o) : zz p l e ({ frames := 16, cells := 4 * d + 1, slots := 1826 * d + 6, locals := 672 } : Room) s m args below meth c A (gw D dA A σ ob ar) cells slots (MQ below (va_Qi (fun r (_ : Unit) => r = o.2 ∧ True) (fun _ t => gw D dA A o.1 ob ar t.heap) A) args s (4 * d + 1) (1826 * d + 6) A) 0 [(0, .ref ob), (1, .int (a1)), (2, .ref (ar 2))] [] [] := by
  obtain ⟨hcs1, hcs2⟩ := hcs
  unfold fl_lives at h
  refine z_iconst (v := 1) X dL_lives_0 (by decide) ?_
  refine z_iload_n X dL_lives_1 rfl rfl ?_
  refine z_iload_n X dL_lives_2 rfl rfl ?_
  refine z_iconst (v := 5) X dL_lives_3 (by decide) ?_
  refine z_irem X dL_lives_4 (by decide) ?_
  refine z_if_ne (tgt := 14) X dL_lives_5 (by decide) (fun q => ?_) (fun q => ?_)
  · have h := zp q h
    refine z_sipush (v := 200) X dL_lives_8 (by decide) ?_
    refine z_goto (tgt := 16) X dL_lives_11 (by decide) ?_
    refine zz.pick (lo' := [(0, .ref ob), (2, .ref (ar 2))]) [0, 2] rfl ?_
    exact bl_lives_16 X Y hml hr ⟨by omega, by omega⟩ h
  · have h := zn q h
    refine z_bipush (v := 9) X dL_lives_14 (by decide) ?_
    refine zz.pick (lo' := [(0, .ref ob), (2, .ref (ar 2))]) [0, 2] rfl ?_
    exact bl_lives_16 X Y hml hr ⟨by omega, by omega⟩ h
theorem ll_lives (l : Launch) {D : va_G} {dA : Nat → ClassId} {A : Nat → Prop} {n : Nat} {ar : Nat → Nat} {ob b Ls : Nat} {sc : Nat → Int32} (hst : l.stackTraces = false) (hA : ∀ q, n ≤ q → A q) (hbA : ¬ A b) {σ : GS} {d : Nat} {a1 : Int32} {o : GS × Int32} (h : fl_lives d σ a1 = some o) : Met l yL_lives (.code yL_lives cL_lives 7 (some .boolean) :: gT) ({ frames := 16, cells := 4 * d + 1, slots := 1826 * d + 6, locals := 672 } : Room) (va_Pc [.ref ob, .int (a1), .ref (ar 2)] (zBL D dA A n b Ls sc (gw D dA A σ ob ar))) (va_Qi (fun r (_ : Unit) => r = o.2 ∧ True) (fun _ t => gw D dA A o.1 ob ar t.heap) A) (4 * d + 1) (1826 * d + 6) A :=
  z_metL (by decide) hA hbA hst (Nat.le_of_ble_eq_true rfl) rfl rfl (fun p e s m below meth c X Y hml hr => bl_lives X Y hml hr ⟨by omega, by omega⟩ h)
-- step(LMeshBiller;III[I[I[I)Z
def fl_step_84 (d : Nat) (σ : GS) (v2 : Int32) (v3 : Int32) (s1 : Int32) : Option (GS × Int32) := (fl_calls σ (s1) (v2) (v3)).bind fun o1 => if o1.2 = 0 ∨ o1.2 = 1 then some (o1.1, o1.2) else none
set_option maxRecDepth 100000 in
set_option maxHeartbeats 4000000 in
theorem bl_step_84 {p : Program} {l : Launch} {e : Env} {s : State} {m : MethodId} {args : Array Value} {below : List Frame} {meth : Method} {c : Code} {D : va_G} {dA : Nat → ClassId} {A : Nat → Prop} {ar : Nat → Nat} {ob b Ls : Nat} {sc : Nat → Int32} {d : Nat} {o : GS × Int32} (X : zc p l s m args meth c cL_step RL D dA A) (Y : zY s A b Ls sc) (hml : c.maxLocals = 7) (hr : meth.sig.returnType = (some .boolean)) {cells slots : Nat} (hcs : cells + (27) ≤ 4 * d + 27 ∧ slots + (13082) ≤ 1826 * d + 13082) {σ : GS} {v2 : Int32} {v3 : Int32} {s1 : Int32} (h : fl_step_84 d σ v2 v3 s1 = some o) : zz p l e ({ frames := 17, cells := 4 * d + 27, slots := 1826 * d + 13082, locals := 714 } : Room) s m args below meth c A (gw D dA A σ ob ar) cells slots (MQ below (va_Qi (fun r (_ : Unit) => r = o.2 ∧ True) (fun _ t => gw D dA A o.1 ob ar t.heap) A) args s (4 * d + 27) (1826 * d + 13082) A) 84 [(2, .int (v2)), (3, .int (v3)), (4, .ref (ar 0)), (5, .ref (ar 1)), (6, .ref (ar 2))] [] [.int (s1), .ref ob] := by
  obtain ⟨hcs1, hcs2⟩ := hcs
  unfold fl_step_84 at h
  refine z_iload_n X dL_step_84 rfl rfl ?_
  refine z_iload_n X dL_step_85 rfl rfl ?_
  refine z_aload X dL_step_86 rfl ?_
  refine z_aload X dL_step_88 rfl ?_
  refine z_aload X dL_step_90 rfl ?_
  obtain ⟨o1, co1, h⟩ := zb2 h
  refine z_lSi (As := [.ref ob, .int (s1), .int (v2), .int (v3), .ref (ar 0), .ref (ar 1), .ref (ar 2)]) (rest := []) (nA := 7) (mc := 27) (ms := 13082) (r0 := o1.2) (pu := fun (_ : Unit) => True) (G1 := fun _ => gw D dA A o1.1 ob ar) X Y (ll_calls l X.2.2.2.2.2.2.2.2 X.2.2.2.2.2.2.1 Y.2.2.2 co1) n_310 n_311 n_0 n_312 nh_yL_calls ⟨rfl, rfl, Nat.le_of_ble_eq_true rfl, Nat.le_of_ble_eq_true rfl⟩ rfl rfl (Nat.le_of_ble_eq_true rfl) dL_step_92 ⟨by show _ ≤ 4 * d + 27; omega, by show _ ≤ 1826 * d + 13082; omega⟩ (fun _ _ => ?_)
  obtain ⟨q, h⟩ := zgp h
  obtain rfl := Option.some.inj h
  refine zz.widen (k := 4 * d + 27) (n := 1826 * d + 13082) (by omega) (by omega) ?_
  exact z_iret X hr (z_nb q) (fun t hG hF _ => ⟨⟨_, (), rfl, ⟨rfl, trivial⟩, hG⟩, hF⟩) dL_step_95
def fl_step_66 (d : Nat) (σ : GS) (v1 : Int32) (v2 : Int32) (v3 : Int32) : Option (GS × Int32) := (if 12 ≤ v1 then (if 17 ≤ v1 then (if 23 ≤ v1 then (fl_lives d σ (v3)).bind fun o1 => if o1.2 = 0 ∨ o1.2 = 1 then some (o1.1, o1.2) else none
  else (fl_sets σ ((v1 - 17)) (v2) (v3)).bind fun o2 => if o2.2 = 0 ∨ o2.2 = 1 then some (o2.1, o2.2) else none)
  else (if 14 ≤ v1 then (if 3 ≤ (v1 - 13) then (fl_wallets σ (2) (v2) (v3)).bind fun o3 => if o3.2 = 0 ∨ o3.2 = 1 then some (o3.1, o3.2) else none
  else (fl_wallets σ ((v1 - 13)) (v2) (v3)).bind fun o4 => if o4.2 = 0 ∨ o4.2 = 1 then some (o4.1, o4.2) else none)
  else (fl_wallets σ (0) (v2) (v3)).bind fun o5 => if o5.2 = 0 ∨ o5.2 = 1 then some (o5.1, o5.2) else none))
  else (if 8 ≤ v1 then fl_step_84 σ v2 v3 3
  else fl_step_84 σ v2 v3 2))
set_option maxRecDepth 100000 in
set_option maxHeartbeats 4000000 in
theorem bl_step_66 {p : Program} {l : Launch} {e : Env} {s : State} {m : MethodId} {args : Array Value} {below : List Frame} {meth : Method} {c : Code} {D : va_G} {dA : Nat → ClassId} {A : Nat → Prop} {ar : Nat → Nat} {ob b Ls : Nat} {sc : Nat → Int32} {d : Nat} {o : GS × Int32} (X : zc p l s m args meth c cL_step RL D dA A) (Y : zY s A b Ls sc) (hml : c.maxLocals = 7) (hr : meth.sig.returnType = (some .boolean)) {cells slots : Nat} (hcs : cells + (4 * d + 27) ≤ 4 * d + 27 ∧ slots + (1826 * d + 13082) ≤ 1826 * d + 13082) {σ : GS} {v1 : Int32} {v2 : Int32} {v3 : Int32} (h : fl_step_66 d σ v1 v2 v3 = some o) : zz p l e ({ frames := 17, cells := 4 * d + 27, slots := 1826 * d + 13082, locals := 714 } : Room) s m args below meth c A (gw D dA A σ ob ar) cells slots (MQ below (va_Qi (fun r (_ : Unit) => r = o.2 ∧ True) (fun _ t => gw D dA A o.1 ob ar t.heap) A) args s (4 * d + 27) (1826 * d + 13082) A) 66 [(0, .ref ob), (1, .int (v1)), (2, .int (v2)), (3, .int (v3)), (4, .ref (ar 0)), (5, .ref (ar 1)), (6, .ref (ar 2))] [] [] := by
  obtain ⟨hcs1, hcs2⟩ := hcs
  unfold fl_step_66 at h
  refine z_iload_n X dL_step_66 rfl rfl ?_
  refine z_bipush (v := 12) X dL_step_67 (by decide) ?_
  refine z_icmp_ge (tgt := 96) X dL_step_69 (by decide) (fun q => ?_) (fun q => ?_)
  · have h := zp q h
    refine z_iload_n X dL_step_96 rfl rfl ?_
    refine z_bipush (v := 17) X dL_step_97 (by decide) ?_
    refine z_icmp_ge (tgt := 137) X dL_step_99 (by decide) (fun q => ?_) (fun q => ?_)
    · have h := zp q h
      refine z_iload_n X dL_step_137 rfl rfl ?_
      refine z_bipush (v := 23) X dL_step_138 (by decide) ?_
      refine z_icmp_ge (tgt := 156) X dL_step_140 (by decide) (fun q => ?_) (fun q => ?_)
      · have h := zp q h
        refine z_aload_n X dL_step_156 rfl rfl ?_
        refine z_iload_n X dL_step_157 rfl rfl ?_
        refine z_aload X dL_step_158 rfl ?_
        obtain ⟨o1, co1, h⟩ := zb2 h
        refine z_lSi (As := [.ref ob, .int (v3), .ref (ar 2)]) (rest := []) (nA := 3) (mc := 4 * d + 1) (ms := 1826 * d + 6) (r0 := o1.2) (pu := fun (_ : Unit) => True) (G1 := fun _ => gw D dA A o1.1 ob ar) X Y (ll_lives l X.2.2.2.2.2.2.2.2 X.2.2.2.2.2.2.1 Y.2.2.2 co1) n_890 n_891 n_0 n_892 nh_yL_lives ⟨rfl, rfl, Nat.le_of_ble_eq_true rfl, Nat.le_of_ble_eq_true rfl⟩ rfl rfl (Nat.le_of_ble_eq_true rfl) dL_step_160 ⟨by show _ ≤ 4 * d + 27; omega, by show _ ≤ 1826 * d + 13082; omega⟩ (fun _ _ => ?_)
        obtain ⟨q, h⟩ := zgp h
        obtain rfl := Option.some.inj h
        refine zz.widen (k := 4 * d + 27) (n := 1826 * d + 13082) (by omega) (by omega) ?_
        exact z_iret X hr (z_nb q) (fun t hG hF _ => ⟨⟨_, (), rfl, ⟨rfl, trivial⟩, hG⟩, hF⟩) dL_step_163
      · have h := zn q h
        refine z_aload_n X dL_step_143 rfl rfl ?_
        refine z_iload_n X dL_step_144 rfl rfl ?_
        refine z_bipush (v := 17) X dL_step_145 (by decide) ?_
        refine z_isub X dL_step_147 ?_
        refine z_iload_n X dL_step_148 rfl rfl ?_
        refine z_iload_n X dL_step_149 rfl rfl ?_
        refine z_aload X dL_step_150 rfl ?_
        obtain ⟨o2, co2, h⟩ := zb2 h
        refine z_lSi (As := [.ref ob, .int ((v1 - 17)), .int (v2), .int (v3), .ref (ar 2)]) (rest := []) (nA := 5) (mc := 6) (ms := 1824) (r0 := o2.2) (pu := fun (_ : Unit) => True) (G1 := fun _ => gw D dA A o2.1 ob ar) X Y (ll_sets l X.2.2.2.2.2.2.2.2 X.2.2.2.2.2.2.1 Y.2.2.2 co2) n_863 n_864 n_0 n_865 nh_yL_sets ⟨rfl, rfl, Nat.le_of_ble_eq_true rfl, Nat.le_of_ble_eq_true rfl⟩ rfl rfl (Nat.le_of_ble_eq_true rfl) dL_step_152 ⟨by show _ ≤ 4 * d + 27; omega, by show _ ≤ 1826 * d + 13082; omega⟩ (fun _ _ => ?_)
        obtain ⟨q, h⟩ := zgp h
        obtain rfl := Option.some.inj h
        refine zz.widen (k := 4 * d + 27) (n := 1826 * d + 13082) (by omega) (by omega) ?_
        exact z_iret X hr (z_nb q) (fun t hG hF _ => ⟨⟨_, (), rfl, ⟨rfl, trivial⟩, hG⟩, hF⟩) dL_step_155
    · have h := zn q h
      refine z_aload_n X dL_step_102 rfl rfl ?_
      refine z_iload_n X dL_step_103 rfl rfl ?_
      refine z_bipush (v := 14) X dL_step_104 (by decide) ?_
      refine z_icmp_ge (tgt := 113) X dL_step_106 (by decide) (fun q => ?_) (fun q => ?_)
      · have h := zp q h
        refine z_iload_n X dL_step_113 rfl rfl ?_
        refine z_bipush (v := 13) X dL_step_114 (by decide) ?_
        refine z_isub X dL_step_116 ?_
        refine z_iconst (v := 3) X dL_step_117 (by decide) ?_
        refine z_icmp_ge (tgt := 128) X dL_step_118 (by decide) (fun q => ?_) (fun q => ?_)
        · have h := zp q h
          refine z_iconst (v := 2) X dL_step_128 (by decide) ?_
          refine z_iload_n X dL_step_129 rfl rfl ?_
          refine z_iload_n X dL_step_130 rfl rfl ?_
          refine z_aload X dL_step_131 rfl ?_
          obtain ⟨o3, co3, h⟩ := zb2 h
          refine z_lSi (As := [.ref ob, .int (2), .int (v2), .int (v3), .ref (ar 2)]) (rest := []) (nA := 5) (mc := 4) (ms := 3030) (r0 := o3.2) (pu := fun (_ : Unit) => True) (G1 := fun _ => gw D dA A o3.1 ob ar) X Y (ll_wallets l X.2.2.2.2.2.2.2.2 X.2.2.2.2.2.2.1 Y.2.2.2 co3) n_798 n_799 n_0 n_800 nh_yL_wallets ⟨rfl, rfl, Nat.le_of_ble_eq_true rfl, Nat.le_of_ble_eq_true rfl⟩ rfl rfl (Nat.le_of_ble_eq_true rfl) dL_step_133 ⟨by show _ ≤ 4 * d + 27; omega, by show _ ≤ 1826 * d + 13082; omega⟩ (fun _ _ => ?_)
          obtain ⟨q, h⟩ := zgp h
          obtain rfl := Option.some.inj h
          refine zz.widen (k := 4 * d + 27) (n := 1826 * d + 13082) (by omega) (by omega) ?_
          exact z_iret X hr (z_nb q) (fun t hG hF _ => ⟨⟨_, (), rfl, ⟨rfl, trivial⟩, hG⟩, hF⟩) dL_step_136
        · have h := zn q h
          refine z_iload_n X dL_step_121 rfl rfl ?_
          refine z_bipush (v := 13) X dL_step_122 (by decide) ?_
          refine z_isub X dL_step_124 ?_
          refine z_goto (tgt := 129) X dL_step_125 (by decide) ?_
          refine z_iload_n X dL_step_129 rfl rfl ?_
          refine z_iload_n X dL_step_130 rfl rfl ?_
          refine z_aload X dL_step_131 rfl ?_
          obtain ⟨o4, co4, h⟩ := zb2 h
          refine z_lSi (As := [.ref ob, .int ((v1 - 13)), .int (v2), .int (v3), .ref (ar 2)]) (rest := []) (nA := 5) (mc := 4) (ms := 3030) (r0 := o4.2) (pu := fun (_ : Unit) => True) (G1 := fun _ => gw D dA A o4.1 ob ar) X Y (ll_wallets l X.2.2.2.2.2.2.2.2 X.2.2.2.2.2.2.1 Y.2.2.2 co4) n_798 n_799 n_0 n_800 nh_yL_wallets ⟨rfl, rfl, Nat.le_of_ble_eq_true rfl, Nat.le_of_ble_eq_true rfl⟩ rfl rfl (Nat.le_of_ble_eq_true rfl) dL_step_133 ⟨by show _ ≤ 4 * d + 27; omega, by show _ ≤ 1826 * d + 13082; omega⟩ (fun _ _ => ?_)
          obtain ⟨q, h⟩ := zgp h
          obtain rfl := Option.some.inj h
          refine zz.widen (k := 4 * d + 27) (n := 1826 * d + 13082) (by omega) (by omega) ?_
          exact z_iret X hr (z_nb q) (fun t hG hF _ => ⟨⟨_, (), rfl, ⟨rfl, trivial⟩, hG⟩, hF⟩) dL_step_136
      · have h := zn q h
        refine z_iconst (v := 0) X dL_step_109 (by decide) ?_
        refine z_goto (tgt := 129) X dL_step_110 (by decide) ?_
        refine z_iload_n X dL_step_129 rfl rfl ?_
        refine z_iload_n X dL_step_130 rfl rfl ?_
        refine z_aload X dL_step_131 rfl ?_
        obtain ⟨o5, co5, h⟩ := zb2 h
        refine z_lSi (As := [.ref ob, .int (0), .int (v2), .int (v3), .ref (ar 2)]) (rest := []) (nA := 5) (mc := 4) (ms := 3030) (r0 := o5.2) (pu := fun (_ : Unit) => True) (G1 := fun _ => gw D dA A o5.1 ob ar) X Y (ll_wallets l X.2.2.2.2.2.2.2.2 X.2.2.2.2.2.2.1 Y.2.2.2 co5) n_798 n_799 n_0 n_800 nh_yL_wallets ⟨rfl, rfl, Nat.le_of_ble_eq_true rfl, Nat.le_of_ble_eq_true rfl⟩ rfl rfl (Nat.le_of_ble_eq_true rfl) dL_step_133 ⟨by show _ ≤ 4 * d + 27; omega, by show _ ≤ 1826 * d + 13082; omega⟩ (fun _ _ => ?_)
        obtain ⟨q, h⟩ := zgp h
        obtain rfl := Option.some.inj h
        refine zz.widen (k := 4 * d + 27) (n := 1826 * d + 13082) (by omega) (by omega) ?_
        exact z_iret X hr (z_nb q) (fun t hG hF _ => ⟨⟨_, (), rfl, ⟨rfl, trivial⟩, hG⟩, hF⟩) dL_step_136
  · have h := zn q h
    refine z_aload_n X dL_step_72 rfl rfl ?_
    refine z_iload_n X dL_step_73 rfl rfl ?_
    refine z_bipush (v := 8) X dL_step_74 (by decide) ?_
    refine z_icmp_ge (tgt := 83) X dL_step_76 (by decide) (fun q => ?_) (fun q => ?_)
    · have h := zp q h
      refine z_iconst (v := 3) X dL_step_83 (by decide) ?_
      refine zz.pick (lo' := [(2, .int (v2)), (3, .int (v3)), (4, .ref (ar 0)), (5, .ref (ar 1)), (6, .ref (ar 2))]) [2, 3, 4, 5, 6] rfl ?_
      exact bl_step_84 X Y hml hr ⟨by omega, by omega⟩ h
    · have h := zn q h
      refine z_iconst (v := 2) X dL_step_79 (by decide) ?_
      refine z_goto (tgt := 84) X dL_step_80 (by decide) ?_
      refine zz.pick (lo' := [(2, .int (v2)), (3, .int (v3)), (4, .ref (ar 0)), (5, .ref (ar 1)), (6, .ref (ar 2))]) [2, 3, 4, 5, 6] rfl ?_
      exact bl_step_84 X Y hml hr ⟨by omega, by omega⟩ h
def fl_step_37 (d : Nat) (σ : GS) (v1 : Int32) (v2 : Int32) (v3 : Int32) : Option (GS × Int32) := (if 7 ≤ v1 then fl_step_66 σ v1 v2 v3
  else (if 62 ≤ (σ.2 2 (2).toNatClampNeg) then fl_step_66 σ v1 v2 v3
  else (fl_calls σ (1) (v2) (v3)).bind fun o1 => if o1.2 = 0 ∨ o1.2 = 1 then some (o1.1, o1.2) else none))
set_option maxRecDepth 100000 in
set_option maxHeartbeats 4000000 in
theorem bl_step_37 {p : Program} {l : Launch} {e : Env} {s : State} {m : MethodId} {args : Array Value} {below : List Frame} {meth : Method} {c : Code} {D : va_G} {dA : Nat → ClassId} {A : Nat → Prop} {ar : Nat → Nat} {ob b Ls : Nat} {sc : Nat → Int32} {d : Nat} {o : GS × Int32} (X : zc p l s m args meth c cL_step RL D dA A) (Y : zY s A b Ls sc) (hml : c.maxLocals = 7) (hr : meth.sig.returnType = (some .boolean)) {cells slots : Nat} (hcs : cells + (4 * d + 27) ≤ 4 * d + 27 ∧ slots + (1826 * d + 13082) ≤ 1826 * d + 13082) {σ : GS} {v1 : Int32} {v2 : Int32} {v3 : Int32} (h : fl_step_37 d σ v1 v2 v3 = some o) : zz p l e ({ frames := 17, cells := 4 * d + 27, slots := 1826 * d + 13082, locals := 714 } : Room) s m args below meth c A (gw D dA A σ ob ar) cells slots (MQ below (va_Qi (fun r (_ : Unit) => r = o.2 ∧ True) (fun _ t => gw D dA A o.1 ob ar t.heap) A) args s (4 * d + 27) (1826 * d + 13082) A) 37 [(0, .ref ob), (1, .int (v1)), (2, .int (v2)), (3, .int (v3)), (4, .ref (ar 0)), (5, .ref (ar 1)), (6, .ref (ar 2))] [] [] := by
  obtain ⟨hcs1, hcs2⟩ := hcs
  unfold fl_step_37 at h
  refine z_iload_n X dL_step_37 rfl rfl ?_
  refine z_bipush (v := 7) X dL_step_38 (by decide) ?_
  refine z_icmp_ge (tgt := 66) X dL_step_40 (by decide) (fun q => ?_) (fun q => ?_)
  · have h := zp q h
    refine zz.pick (lo' := [(0, .ref ob), (1, .int (v1)), (2, .int (v2)), (3, .int (v3)), (4, .ref (ar 0)), (5, .ref (ar 1)), (6, .ref (ar 2))]) [0, 1, 2, 3, 4, 5, 6] rfl ?_
    exact bl_step_66 X Y hml hr ⟨by omega, by omega⟩ h
  · have h := zn q h
    refine z_aload X dL_step_43 rfl ?_
    refine z_iconst (v := 2) X dL_step_45 (by decide) ?_
    refine l_ald X 2 rfl (by decide) dL_step_46 ?_
    refine z_bipush (v := 62) X dL_step_47 (by decide) ?_
    refine z_icmp_ge (tgt := 66) X dL_step_49 (by decide) (fun q => ?_) (fun q => ?_)
    · have h := zp q h
      refine zz.pick (lo' := [(0, .ref ob), (1, .int (v1)), (2, .int (v2)), (3, .int (v3)), (4, .ref (ar 0)), (5, .ref (ar 1)), (6, .ref (ar 2))]) [0, 1, 2, 3, 4, 5, 6] rfl ?_
      exact bl_step_66 X Y hml hr ⟨by omega, by omega⟩ h
    · have h := zn q h
      refine z_aload_n X dL_step_52 rfl rfl ?_
      refine z_iconst (v := 1) X dL_step_53 (by decide) ?_
      refine z_iload_n X dL_step_54 rfl rfl ?_
      refine z_iload_n X dL_step_55 rfl rfl ?_
      refine z_aload X dL_step_56 rfl ?_
      refine z_aload X dL_step_58 rfl ?_
      refine z_aload X dL_step_60 rfl ?_
      obtain ⟨o1, co1, h⟩ := zb2 h
      refine z_lSi (As := [.ref ob, .int (1), .int (v2), .int (v3), .ref (ar 0), .ref (ar 1), .ref (ar 2)]) (rest := []) (nA := 7) (mc := 27) (ms := 13082) (r0 := o1.2) (pu := fun (_ : Unit) => True) (G1 := fun _ => gw D dA A o1.1 ob ar) X Y (ll_calls l X.2.2.2.2.2.2.2.2 X.2.2.2.2.2.2.1 Y.2.2.2 co1) n_310 n_311 n_0 n_312 nh_yL_calls ⟨rfl, rfl, Nat.le_of_ble_eq_true rfl, Nat.le_of_ble_eq_true rfl⟩ rfl rfl (Nat.le_of_ble_eq_true rfl) dL_step_62 ⟨by show _ ≤ 4 * d + 27; omega, by show _ ≤ 1826 * d + 13082; omega⟩ (fun _ _ => ?_)
      obtain ⟨q, h⟩ := zgp h
      obtain rfl := Option.some.inj h
      refine zz.widen (k := 4 * d + 27) (n := 1826 * d + 13082) (by omega) (by omega) ?_
      exact z_iret X hr (z_nb q) (fun t hG hF _ => ⟨⟨_, (), rfl, ⟨rfl, trivial⟩, hG⟩, hF⟩) dL_step_65
def fl_step (d : Nat) (σ : GS) (a1 : Int32) (a2 : Int32) (a3 : Int32) : Option (GS × Int32) := (if 4 ≤ a1 then fl_step_37 σ a1 a2 a3
  else (if 62 ≤ (σ.2 2 (2).toNatClampNeg) then fl_step_37 σ a1 a2 a3
  else (if 40 ≤ (σ.2 2 (1).toNatClampNeg) then fl_step_37 σ a1 a2 a3
  else (fl_calls σ (0) (a2) (a3)).bind fun o1 => if o1.2 = 0 ∨ o1.2 = 1 then some (o1.1, o1.2) else none)))
set_option maxRecDepth 100000 in
set_option maxHeartbeats 4000000 in
theorem bl_step {p : Program} {l : Launch} {e : Env} {s : State} {m : MethodId} {args : Array Value} {below : List Frame} {meth : Method} {c : Code} {D : va_G} {dA : Nat → ClassId} {A : Nat → Prop} {ar : Nat → Nat} {ob b Ls : Nat} {sc : Nat → Int32} {d : Nat} {o : GS × Int32} (X : zc p l s m args meth c cL_step RL D dA A) (Y : zY s A b Ls sc) (hml : c.maxLocals = 7) (hr : meth.sig.returnType = (some .boolean)) {cells slots : Nat} (hcs : cells + (4 * d + 27) ≤ 4 * d + 27 ∧ slots + (1826 * d + 13082) ≤ 1826 * d + 13082) {σ : GS} {a1 : Int32} {a2 : Int32} {a3 : Int32} (h : fl_step d σ a1 a2 a3 = some o) : zz p l e ({ frames := 17, cells := 4 * d + 27, slots := 1826 * d + 13082, locals := 714 } : Room) s m args below meth c A (gw D dA A σ ob ar) cells slots (MQ below (va_Qi (fun r (_ : Unit) => r = o.2 ∧ True) (fun _ t => gw D dA A o.1 ob ar t.heap) A) args s (4 * d + 27) (1826 * d + 13082) A) 0 [(0, .ref ob), (1, .int (a1)), (2, .int (a2)), (3, .int (a3)), (4, .ref (ar 0)), (5, .ref (ar 1)), (6, .ref (ar 2))] [] [] := by
  obtain ⟨hcs1, hcs2⟩ := hcs
  unfold fl_step at h
  refine z_iload_n X dL_step_0 rfl rfl ?_
  refine z_iconst (v := 4) X dL_step_1 (by decide) ?_
  refine z_icmp_ge (tgt := 37) X dL_step_2 (by decide) (fun q => ?_) (fun q => ?_)
  · have h := zp q h
    refine zz.pick (lo' := [(0, .ref ob), (1, .int (a1)), (2, .int (a2)), (3, .int (a3)), (4, .ref (ar 0)), (5, .ref (ar 1)), (6, .ref (ar 2))]) [0, 1, 2, 3, 4, 5, 6] rfl ?_
    exact bl_step_37 X Y hml hr ⟨by omega, by omega⟩ h
  · have h := zn q h
    refine z_aload X dL_step_5 rfl ?_
    refine z_iconst (v := 2) X dL_step_7 (by decide) ?_
    refine l_ald X 2 rfl (by decide) dL_step_8 ?_
    refine z_bipush (v := 62) X dL_step_9 (by decide) ?_
    refine z_icmp_ge (tgt := 37) X dL_step_11 (by decide) (fun q => ?_) (fun q => ?_)
    · have h := zp q h
      refine zz.pick (lo' := [(0, .ref ob), (1, .int (a1)), (2, .int (a2)), (3, .int (a3)), (4, .ref (ar 0)), (5, .ref (ar 1)), (6, .ref (ar 2))]) [0, 1, 2, 3, 4, 5, 6] rfl ?_
      exact bl_step_37 X Y hml hr ⟨by omega, by omega⟩ h
    · have h := zn q h
      refine z_aload X dL_step_14 rfl ?_
      refine z_iconst (v := 1) X dL_step_16 (by decide) ?_
      refine l_ald X 2 rfl (by decide) dL_step_17 ?_
      refine z_bipush (v := 40) X dL_step_18 (by decide) ?_
      refine z_icmp_ge (tgt := 37) X dL_step_20 (by decide) (fun q => ?_) (fun q => ?_)
      · have h := zp q h
        refine zz.pick (lo' := [(0, .ref ob), (1, .int (a1)), (2, .int (a2)), (3, .int (a3)), (4, .ref (ar 0)), (5, .ref (ar 1)), (6, .ref (ar 2))]) [0, 1, 2, 3, 4, 5, 6] rfl ?_
        exact bl_step_37 X Y hml hr ⟨by omega, by omega⟩ h
      · have h := zn q h
        refine z_aload_n X dL_step_23 rfl rfl ?_
        refine z_iconst (v := 0) X dL_step_24 (by decide) ?_
        refine z_iload_n X dL_step_25 rfl rfl ?_
        refine z_iload_n X dL_step_26 rfl rfl ?_
        refine z_aload X dL_step_27 rfl ?_
        refine z_aload X dL_step_29 rfl ?_
        refine z_aload X dL_step_31 rfl ?_
        obtain ⟨o1, co1, h⟩ := zb2 h
        refine z_lSi (As := [.ref ob, .int (0), .int (a2), .int (a3), .ref (ar 0), .ref (ar 1), .ref (ar 2)]) (rest := []) (nA := 7) (mc := 27) (ms := 13082) (r0 := o1.2) (pu := fun (_ : Unit) => True) (G1 := fun _ => gw D dA A o1.1 ob ar) X Y (ll_calls l X.2.2.2.2.2.2.2.2 X.2.2.2.2.2.2.1 Y.2.2.2 co1) n_310 n_311 n_0 n_312 nh_yL_calls ⟨rfl, rfl, Nat.le_of_ble_eq_true rfl, Nat.le_of_ble_eq_true rfl⟩ rfl rfl (Nat.le_of_ble_eq_true rfl) dL_step_33 ⟨by show _ ≤ 4 * d + 27; omega, by show _ ≤ 1826 * d + 13082; omega⟩ (fun _ _ => ?_)
        obtain ⟨q, h⟩ := zgp h
        obtain rfl := Option.some.inj h
        refine zz.widen (k := 4 * d + 27) (n := 1826 * d + 13082) (by omega) (by omega) ?_
        exact z_iret X hr (z_nb q) (fun t hG hF _ => ⟨⟨_, (), rfl, ⟨rfl, trivial⟩, hG⟩, hF⟩) dL_step_36
theorem ll_step (l : Launch) {D : va_G} {dA : Nat → ClassId} {A : Nat → Prop} {n : Nat} {ar : Nat → Nat} {ob b Ls : Nat} {sc : Nat → Int32} (hst : l.stackTraces = false) (hA : ∀ q, n ≤ q → A q) (hbA : ¬ A b) {σ : GS} {d : Nat} {a1 : Int32} {a2 : Int32} {a3 : Int32} {o : GS × Int32} (h : fl_step d σ a1 a2 a3 = some o) : Met l yL_step (.code yL_step cL_step 7 (some .boolean) :: gT) ({ frames := 17, cells := 4 * d + 27, slots := 1826 * d + 13082, locals := 714 } : Room) (va_Pc [.ref ob, .int (a1), .int (a2), .int (a3), .ref (ar 0), .ref (ar 1), .ref (ar 2)] (zBL D dA A n b Ls sc (gw D dA A σ ob ar))) (va_Qi (fun r (_ : Unit) => r = o.2 ∧ True) (fun _ t => gw D dA A o.1 ob ar t.heap) A) (4 * d + 27) (1826 * d + 13082) A :=
  z_metL (by decide) hA hbA hst (Nat.le_of_ble_eq_true rfl) rfl rfl (fun p e s m below meth c X Y hml hr => bl_step X Y hml hr ⟨by omega, by omega⟩ h)
