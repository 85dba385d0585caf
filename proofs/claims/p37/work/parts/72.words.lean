/-! THE LAW: words -/
theorem n_0 : Cond.initialized RL ∈ gT := gT_t 0 (by decide +kernel) rfl
theorem n_1139 : Cond.methodLink RL 112 yL_reads ∈ gT := gT_t 1139 (by decide +kernel) rfl
theorem n_1140 : Cond.static yL_reads ∈ gT := gT_t 1140 (by decide +kernel) rfl
theorem n_1141 : Cond.code yL_reads cL_reads 6 (some .int) ∈ gT := gT_t 1141 (by decide +kernel) rfl
theorem n_304 : Jvm.Cond.constant RL 7 868739541 ∈ gT := gT_t 304 (by decide +kernel) rfl
theorem n_305 : Jvm.Cond.constant RL 8 799127491 ∈ gT := gT_t 305 (by decide +kernel) rfl
theorem n_306 : Jvm.Cond.constant RL 9 2147483647 ∈ gT := gT_t 306 (by decide +kernel) rfl
theorem n_310 : Cond.methodLink RL 148 yL_calls ∈ gT := gT_t 310 (by decide +kernel) rfl
theorem n_311 : Cond.static yL_calls ∈ gT := gT_t 311 (by decide +kernel) rfl
set_option maxRecDepth 100000 in
theorem n_312 : Cond.code yL_calls cL_calls 13 (some .boolean) ∈ gT := gT_t 312 (by rfl) rfl
theorem n_313 : Cond.methodLink RL 84 yX11_legOf ∈ gT := gT_t 313 (by decide +kernel) rfl
theorem n_314 : Cond.instanceMethod yX11_legOf ∈ gT := gT_t 314 (by decide +kernel) rfl
theorem n_315 : Cond.selects RX11 yX11_legOf yX11_legOf ∈ gT := gT_t 315 (by decide +kernel) rfl
theorem n_316 : Cond.code yX11_legOf cX11_legOf 3 (some .int) ∈ gT := gT_t 316 (by decide +kernel) rfl
theorem n_390 : Cond.methodLink RL 116 yL_asks ∈ gT := gT_t 390 (by decide +kernel) rfl
theorem n_391 : Cond.static yL_asks ∈ gT := gT_t 391 (by decide +kernel) rfl
theorem n_392 : Cond.codeWith yL_asks cL_asks 6 (some .int) (hdT [(2, 110, 37, 109), (3, 115, 39, 109)]) ∈ gT := gT_t 392 (by decide +kernel) rfl
theorem n_761 : Cond.methodLink RL 87 yX11_cellOf ∈ gT := gT_t 761 (by decide +kernel) rfl
theorem n_762 : Cond.instanceMethod yX11_cellOf ∈ gT := gT_t 762 (by decide +kernel) rfl
theorem n_763 : Cond.selects RX11 yX11_cellOf yX11_cellOf ∈ gT := gT_t 763 (by decide +kernel) rfl
theorem n_764 : Cond.code yX11_cellOf cX11_cellOf 2 (some .int) ∈ gT := gT_t 764 (by decide +kernel) rfl
theorem n_765 : Cond.methodLink RL 120 yL_joins ∈ gT := gT_t 765 (by decide +kernel) rfl
theorem n_766 : Cond.static yL_joins ∈ gT := gT_t 766 (by decide +kernel) rfl
theorem n_767 : Cond.code yL_joins cL_joins 6 none ∈ gT := gT_t 767 (by decide +kernel) rfl
theorem n_768 : Cond.methodLink RL 90 yL_event ∈ gT := gT_t 768 (by decide +kernel) rfl
theorem n_769 : Cond.static yL_event ∈ gT := gT_t 769 (by decide +kernel) rfl
theorem n_770 : Cond.code yL_event cL_event 4 (some .int) ∈ gT := gT_t 770 (by decide +kernel) rfl
theorem n_771 : Cond.methodLink RL 103 yX11_parties ∈ gT := gT_t 771 (by decide +kernel) rfl
theorem n_772 : Cond.instanceMethod yX11_parties ∈ gT := gT_t 772 (by decide +kernel) rfl
theorem n_773 : Cond.selects RX11 yX11_parties yX11_parties ∈ gT := gT_t 773 (by decide +kernel) rfl
theorem n_774 : Cond.code yX11_parties cX11_parties 2 (some .int) ∈ gT := gT_t 774 (by decide +kernel) rfl
theorem n_775 : Cond.methodLink RL 78 yX11_stateOf ∈ gT := gT_t 775 (by decide +kernel) rfl
theorem n_776 : Cond.instanceMethod yX11_stateOf ∈ gT := gT_t 776 (by decide +kernel) rfl
theorem n_777 : Cond.selects RX11 yX11_stateOf yX11_stateOf ∈ gT := gT_t 777 (by decide +kernel) rfl
theorem n_778 : Cond.code yX11_stateOf cX11_stateOf 2 (some .int) ∈ gT := gT_t 778 (by decide +kernel) rfl
theorem n_784 : Cond.methodLink RL 73 yL_part ∈ gT := gT_t 784 (by decide +kernel) rfl
theorem n_785 : Cond.static yL_part ∈ gT := gT_t 785 (by decide +kernel) rfl
theorem n_786 : Cond.code yL_part cL_part 3 (some .int) ∈ gT := gT_t 786 (by decide +kernel) rfl
theorem n_787 : Cond.methodLink RL 124 yX11_move ∈ gT := gT_t 787 (by decide +kernel) rfl
theorem n_788 : Cond.instanceMethod yX11_move ∈ gT := gT_t 788 (by decide +kernel) rfl
theorem n_789 : Cond.selects RX11 yX11_move yX11_move ∈ gT := gT_t 789 (by decide +kernel) rfl
theorem n_790 : Cond.code yX11_move cX11_move 6 (some .boolean) ∈ gT := gT_t 790 (by decide +kernel) rfl
theorem n_798 : Cond.methodLink RL 152 yL_wallets ∈ gT := gT_t 798 (by decide +kernel) rfl
theorem n_799 : Cond.static yL_wallets ∈ gT := gT_t 799 (by decide +kernel) rfl
theorem n_800 : Cond.code yL_wallets cL_wallets 10 (some .boolean) ∈ gT := gT_t 800 (by decide +kernel) rfl
theorem n_801 : Cond.methodLink RL 45 yX11_free ∈ gT := gT_t 801 (by decide +kernel) rfl
theorem n_802 : Cond.instanceMethod yX11_free ∈ gT := gT_t 802 (by decide +kernel) rfl
theorem n_803 : Cond.selects RX11 yX11_free yX11_free ∈ gT := gT_t 803 (by decide +kernel) rfl
theorem n_804 : Cond.code yX11_free cX11_free 2 (some .int) ∈ gT := gT_t 804 (by decide +kernel) rfl
theorem n_805 : Cond.methodLink RL 128 yX11_top ∈ gT := gT_t 805 (by decide +kernel) rfl
theorem n_806 : Cond.instanceMethod yX11_top ∈ gT := gT_t 806 (by decide +kernel) rfl
theorem n_807 : Cond.selects RX11 yX11_top yX11_top ∈ gT := gT_t 807 (by decide +kernel) rfl
theorem n_808 : Cond.code yX11_top cX11_top 4 (some .int) ∈ gT := gT_t 808 (by decide +kernel) rfl
theorem n_810 : Cond.methodLink RL 131 yL_buys ∈ gT := gT_t 810 (by decide +kernel) rfl
theorem n_811 : Cond.static yL_buys ∈ gT := gT_t 811 (by decide +kernel) rfl
theorem n_812 : Cond.codeWith yL_buys cL_buys 8 (some .int) (hdT [(3, 14, 39, 13)]) ∈ gT := gT_t 812 (by decide +kernel) rfl
theorem n_858 : Cond.methodLink RL 63 yX11_left ∈ gT := gT_t 858 (by decide +kernel) rfl
theorem n_859 : Cond.instanceMethod yX11_left ∈ gT := gT_t 859 (by decide +kernel) rfl
theorem n_860 : Cond.selects RX11 yX11_left yX11_left ∈ gT := gT_t 860 (by decide +kernel) rfl
theorem n_861 : Cond.code yX11_left cX11_left 3 (some .int) ∈ gT := gT_t 861 (by decide +kernel) rfl
theorem n_863 : Cond.methodLink RL 156 yL_sets ∈ gT := gT_t 863 (by decide +kernel) rfl
theorem n_864 : Cond.static yL_sets ∈ gT := gT_t 864 (by decide +kernel) rfl
theorem n_865 : Cond.code yL_sets cL_sets 8 (some .boolean) ∈ gT := gT_t 865 (by decide +kernel) rfl
theorem n_866 : Cond.methodLink RL 135 yX11_setRate ∈ gT := gT_t 866 (by decide +kernel) rfl
theorem n_867 : Cond.instanceMethod yX11_setRate ∈ gT := gT_t 867 (by decide +kernel) rfl
theorem n_868 : Cond.selects RX11 yX11_setRate yX11_setRate ∈ gT := gT_t 868 (by decide +kernel) rfl
theorem n_869 : Cond.code yX11_setRate cX11_setRate 6 (some .int) ∈ gT := gT_t 869 (by decide +kernel) rfl
theorem n_876 : Cond.methodLink RL 139 yX11_setChannels ∈ gT := gT_t 876 (by decide +kernel) rfl
theorem n_877 : Cond.instanceMethod yX11_setChannels ∈ gT := gT_t 877 (by decide +kernel) rfl
theorem n_878 : Cond.selects RX11 yX11_setChannels yX11_setChannels ∈ gT := gT_t 878 (by decide +kernel) rfl
theorem n_879 : Cond.code yX11_setChannels cX11_setChannels 5 (some .int) ∈ gT := gT_t 879 (by decide +kernel) rfl
theorem n_881 : Cond.methodLink RL 142 yX11_setSlice ∈ gT := gT_t 881 (by decide +kernel) rfl
theorem n_882 : Cond.instanceMethod yX11_setSlice ∈ gT := gT_t 882 (by decide +kernel) rfl
theorem n_883 : Cond.selects RX11 yX11_setSlice yX11_setSlice ∈ gT := gT_t 883 (by decide +kernel) rfl
theorem n_884 : Cond.code yX11_setSlice cX11_setSlice 3 (some .int) ∈ gT := gT_t 884 (by decide +kernel) rfl
theorem n_885 : Cond.methodLink RL 145 yX11_setCap ∈ gT := gT_t 885 (by decide +kernel) rfl
theorem n_886 : Cond.instanceMethod yX11_setCap ∈ gT := gT_t 886 (by decide +kernel) rfl
theorem n_887 : Cond.selects RX11 yX11_setCap yX11_setCap ∈ gT := gT_t 887 (by decide +kernel) rfl
theorem n_888 : Cond.code yX11_setCap cX11_setCap 5 (some .int) ∈ gT := gT_t 888 (by decide +kernel) rfl
theorem n_890 : Cond.methodLink RL 159 yL_lives ∈ gT := gT_t 890 (by decide +kernel) rfl
theorem n_891 : Cond.static yL_lives ∈ gT := gT_t 891 (by decide +kernel) rfl
theorem n_892 : Cond.code yL_lives cL_lives 7 (some .boolean) ∈ gT := gT_t 892 (by decide +kernel) rfl
theorem n_896 : Cond.methodLink RL 66 yX11_legs ∈ gT := gT_t 896 (by decide +kernel) rfl
theorem n_897 : Cond.instanceMethod yX11_legs ∈ gT := gT_t 897 (by decide +kernel) rfl
theorem n_898 : Cond.selects RX11 yX11_legs yX11_legs ∈ gT := gT_t 898 (by decide +kernel) rfl
theorem n_899 : Cond.code yX11_legs cX11_legs 1 (some .int) ∈ gT := gT_t 899 (by decide +kernel) rfl
theorem n_900 : Cond.methodLink RL 70 yX11_now ∈ gT := gT_t 900 (by decide +kernel) rfl
theorem n_901 : Cond.instanceMethod yX11_now ∈ gT := gT_t 901 (by decide +kernel) rfl
theorem n_902 : Cond.selects RX11 yX11_now yX11_now ∈ gT := gT_t 902 (by decide +kernel) rfl
theorem n_903 : Cond.code yX11_now cX11_now 1 (some .int) ∈ gT := gT_t 903 (by decide +kernel) rfl
theorem n_904 : Cond.methodLink RL 81 yX11_seconds ∈ gT := gT_t 904 (by decide +kernel) rfl
theorem n_905 : Cond.instanceMethod yX11_seconds ∈ gT := gT_t 905 (by decide +kernel) rfl
theorem n_906 : Cond.selects RX11 yX11_seconds yX11_seconds ∈ gT := gT_t 906 (by decide +kernel) rfl
theorem n_907 : Cond.code yX11_seconds cX11_seconds 2 (some .int) ∈ gT := gT_t 907 (by decide +kernel) rfl
theorem n_908 : Cond.methodLink RL 94 yX11_seal ∈ gT := gT_t 908 (by decide +kernel) rfl
theorem n_909 : Cond.instanceMethod yX11_seal ∈ gT := gT_t 909 (by decide +kernel) rfl
theorem n_910 : Cond.selects RX11 yX11_seal yX11_seal ∈ gT := gT_t 910 (by decide +kernel) rfl
theorem n_911 : Cond.code yX11_seal cX11_seal 2 (some .int) ∈ gT := gT_t 911 (by decide +kernel) rfl
theorem n_917 : Cond.methodLink RL 97 yX11_tag ∈ gT := gT_t 917 (by decide +kernel) rfl
theorem n_918 : Cond.instanceMethod yX11_tag ∈ gT := gT_t 918 (by decide +kernel) rfl
theorem n_919 : Cond.selects RX11 yX11_tag yX11_tag ∈ gT := gT_t 919 (by decide +kernel) rfl
theorem n_920 : Cond.code yX11_tag cX11_tag 2 (some .int) ∈ gT := gT_t 920 (by decide +kernel) rfl
theorem n_921 : Cond.methodLink RL 60 yX11_ratedByEvents ∈ gT := gT_t 921 (by decide +kernel) rfl
theorem n_922 : Cond.instanceMethod yX11_ratedByEvents ∈ gT := gT_t 922 (by decide +kernel) rfl
theorem n_923 : Cond.selects RX11 yX11_ratedByEvents yX11_ratedByEvents ∈ gT := gT_t 923 (by decide +kernel) rfl
theorem n_924 : Cond.code yX11_ratedByEvents cX11_ratedByEvents 7 (some .int) ∈ gT := gT_t 924 (by decide +kernel) rfl
theorem n_937 : Cond.methodLink RL 100 yX11_sliceOf ∈ gT := gT_t 937 (by decide +kernel) rfl
theorem n_938 : Cond.instanceMethod yX11_sliceOf ∈ gT := gT_t 938 (by decide +kernel) rfl
theorem n_939 : Cond.selects RX11 yX11_sliceOf yX11_sliceOf ∈ gT := gT_t 939 (by decide +kernel) rfl
theorem n_940 : Cond.code yX11_sliceOf cX11_sliceOf 3 (some .int) ∈ gT := gT_t 940 (by decide +kernel) rfl
theorem n_944 : Cond.methodLink RL 48 yX11_aside ∈ gT := gT_t 944 (by decide +kernel) rfl
theorem n_945 : Cond.instanceMethod yX11_aside ∈ gT := gT_t 945 (by decide +kernel) rfl
theorem n_946 : Cond.selects RX11 yX11_aside yX11_aside ∈ gT := gT_t 946 (by decide +kernel) rfl
theorem n_947 : Cond.code yX11_aside cX11_aside 8 (some .int) ∈ gT := gT_t 947 (by decide +kernel) rfl
theorem n_948 : Cond.methodLink RL 51 yX11_spent ∈ gT := gT_t 948 (by decide +kernel) rfl
theorem n_949 : Cond.instanceMethod yX11_spent ∈ gT := gT_t 949 (by decide +kernel) rfl
theorem n_950 : Cond.selects RX11 yX11_spent yX11_spent ∈ gT := gT_t 950 (by decide +kernel) rfl
theorem n_951 : Cond.code yX11_spent cX11_spent 2 (some .int) ∈ gT := gT_t 951 (by decide +kernel) rfl
theorem n_952 : Cond.methodLink RL 54 yX11_charged ∈ gT := gT_t 952 (by decide +kernel) rfl
theorem n_953 : Cond.instanceMethod yX11_charged ∈ gT := gT_t 953 (by decide +kernel) rfl
theorem n_954 : Cond.selects RX11 yX11_charged yX11_charged ∈ gT := gT_t 954 (by decide +kernel) rfl
theorem n_955 : Cond.code yX11_charged cX11_charged 2 (some .int) ∈ gT := gT_t 955 (by decide +kernel) rfl
theorem n_956 : Cond.methodLink RL 57 yX11_covered ∈ gT := gT_t 956 (by decide +kernel) rfl
theorem n_957 : Cond.instanceMethod yX11_covered ∈ gT := gT_t 957 (by decide +kernel) rfl
theorem n_958 : Cond.selects RX11 yX11_covered yX11_covered ∈ gT := gT_t 958 (by decide +kernel) rfl
theorem n_959 : Cond.code yX11_covered cX11_covered 2 (some .int) ∈ gT := gT_t 959 (by decide +kernel) rfl
theorem n_963 : Cond.methodLink RL 106 yX11_stamp ∈ gT := gT_t 963 (by decide +kernel) rfl
theorem n_964 : Cond.instanceMethod yX11_stamp ∈ gT := gT_t 964 (by decide +kernel) rfl
theorem n_965 : Cond.selects RX11 yX11_stamp yX11_stamp ∈ gT := gT_t 965 (by decide +kernel) rfl
theorem n_966 : Cond.code yX11_stamp cX11_stamp 6 (some .int) ∈ gT := gT_t 966 (by decide +kernel) rfl
theorem n_970 : Cond.methodLink RL 109 yX11_lineAt ∈ gT := gT_t 970 (by decide +kernel) rfl
theorem n_971 : Cond.instanceMethod yX11_lineAt ∈ gT := gT_t 971 (by decide +kernel) rfl
theorem n_972 : Cond.selects RX11 yX11_lineAt yX11_lineAt ∈ gT := gT_t 972 (by decide +kernel) rfl
theorem n_973 : Cond.code yX11_lineAt cX11_lineAt 5 (some .int) ∈ gT := gT_t 973 (by decide +kernel) rfl
theorem nh_yL_asks : yL_asks.cls ≠ "java/lang/invoke/MethodHandle" ∧ yL_asks.cls ≠ "java/lang/invoke/VarHandle" ∧ (parseMethodDescriptor yL_asks.desc).map (fun d => d.parameters.length) = some 5 := by decide +kernel
theorem nh_yL_buys : yL_buys.cls ≠ "java/lang/invoke/MethodHandle" ∧ yL_buys.cls ≠ "java/lang/invoke/VarHandle" ∧ (parseMethodDescriptor yL_buys.desc).map (fun d => d.parameters.length) = some 7 := by decide +kernel
theorem nh_yL_calls : yL_calls.cls = RL ∧ yL_calls.cls ≠ "java/lang/invoke/MethodHandle" ∧ yL_calls.cls ≠ "java/lang/invoke/VarHandle" ∧ (parseMethodDescriptor yL_calls.desc).map (fun d => d.parameters.length) = some 7 := by decide +kernel
theorem nh_yL_event : yL_event.cls = RL ∧ yL_event.cls ≠ "java/lang/invoke/MethodHandle" ∧ yL_event.cls ≠ "java/lang/invoke/VarHandle" ∧ (parseMethodDescriptor yL_event.desc).map (fun d => d.parameters.length) = some 4 := by decide +kernel
theorem nh_yL_joins : yL_joins.cls = RL ∧ yL_joins.cls ≠ "java/lang/invoke/MethodHandle" ∧ yL_joins.cls ≠ "java/lang/invoke/VarHandle" ∧ (parseMethodDescriptor yL_joins.desc).map (fun d => d.parameters.length) = some 6 := by decide +kernel
theorem nh_yL_lives : yL_lives.cls = RL ∧ yL_lives.cls ≠ "java/lang/invoke/MethodHandle" ∧ yL_lives.cls ≠ "java/lang/invoke/VarHandle" ∧ (parseMethodDescriptor yL_lives.desc).map (fun d => d.parameters.length) = some 3 := by decide +kernel
theorem nh_yL_part : yL_part.cls = RL ∧ yL_part.cls ≠ "java/lang/invoke/MethodHandle" ∧ yL_part.cls ≠ "java/lang/invoke/VarHandle" ∧ (parseMethodDescriptor yL_part.desc).map (fun d => d.parameters.length) = some 3 := by decide +kernel
theorem nh_yL_reads : yL_reads.cls = RL ∧ yL_reads.cls ≠ "java/lang/invoke/MethodHandle" ∧ yL_reads.cls ≠ "java/lang/invoke/VarHandle" ∧ (parseMethodDescriptor yL_reads.desc).map (fun d => d.parameters.length) = some 4 := by decide +kernel
theorem nh_yL_sets : yL_sets.cls = RL ∧ yL_sets.cls ≠ "java/lang/invoke/MethodHandle" ∧ yL_sets.cls ≠ "java/lang/invoke/VarHandle" ∧ (parseMethodDescriptor yL_sets.desc).map (fun d => d.parameters.length) = some 5 := by decide +kernel
theorem nh_yL_wallets : yL_wallets.cls = RL ∧ yL_wallets.cls ≠ "java/lang/invoke/MethodHandle" ∧ yL_wallets.cls ≠ "java/lang/invoke/VarHandle" ∧ (parseMethodDescriptor yL_wallets.desc).map (fun d => d.parameters.length) = some 5 := by decide +kernel
theorem nh_yX11_aside : yX11_aside.cls = RX11 ∧ yX11_aside.cls ≠ "java/lang/invoke/MethodHandle" ∧ yX11_aside.cls ≠ "java/lang/invoke/VarHandle" ∧ (parseMethodDescriptor yX11_aside.desc).map (fun d => d.parameters.length) = some 1 := by decide +kernel
theorem nh_yX11_cellOf : yX11_cellOf.cls = RX11 ∧ yX11_cellOf.cls ≠ "java/lang/invoke/MethodHandle" ∧ yX11_cellOf.cls ≠ "java/lang/invoke/VarHandle" ∧ (parseMethodDescriptor yX11_cellOf.desc).map (fun d => d.parameters.length) = some 1 := by decide +kernel
theorem nh_yX11_charged : yX11_charged.cls = RX11 ∧ yX11_charged.cls ≠ "java/lang/invoke/MethodHandle" ∧ yX11_charged.cls ≠ "java/lang/invoke/VarHandle" ∧ (parseMethodDescriptor yX11_charged.desc).map (fun d => d.parameters.length) = some 1 := by decide +kernel
theorem nh_yX11_covered : yX11_covered.cls = RX11 ∧ yX11_covered.cls ≠ "java/lang/invoke/MethodHandle" ∧ yX11_covered.cls ≠ "java/lang/invoke/VarHandle" ∧ (parseMethodDescriptor yX11_covered.desc).map (fun d => d.parameters.length) = some 1 := by decide +kernel
theorem nh_yX11_free : yX11_free.cls = RX11 ∧ yX11_free.cls ≠ "java/lang/invoke/MethodHandle" ∧ yX11_free.cls ≠ "java/lang/invoke/VarHandle" ∧ (parseMethodDescriptor yX11_free.desc).map (fun d => d.parameters.length) = some 1 := by decide +kernel
theorem nh_yX11_left : yX11_left.cls = RX11 ∧ yX11_left.cls ≠ "java/lang/invoke/MethodHandle" ∧ yX11_left.cls ≠ "java/lang/invoke/VarHandle" ∧ (parseMethodDescriptor yX11_left.desc).map (fun d => d.parameters.length) = some 1 := by decide +kernel
theorem nh_yX11_legOf : yX11_legOf.cls = RX11 ∧ yX11_legOf.cls ≠ "java/lang/invoke/MethodHandle" ∧ yX11_legOf.cls ≠ "java/lang/invoke/VarHandle" ∧ (parseMethodDescriptor yX11_legOf.desc).map (fun d => d.parameters.length) = some 1 := by decide +kernel
theorem nh_yX11_legs : yX11_legs.cls = RX11 ∧ yX11_legs.cls ≠ "java/lang/invoke/MethodHandle" ∧ yX11_legs.cls ≠ "java/lang/invoke/VarHandle" ∧ (parseMethodDescriptor yX11_legs.desc).map (fun d => d.parameters.length) = some 0 := by decide +kernel
theorem nh_yX11_lineAt : yX11_lineAt.cls = RX11 ∧ yX11_lineAt.cls ≠ "java/lang/invoke/MethodHandle" ∧ yX11_lineAt.cls ≠ "java/lang/invoke/VarHandle" ∧ (parseMethodDescriptor yX11_lineAt.desc).map (fun d => d.parameters.length) = some 2 := by decide +kernel
theorem nh_yX11_move : yX11_move.cls = RX11 ∧ yX11_move.cls ≠ "java/lang/invoke/MethodHandle" ∧ yX11_move.cls ≠ "java/lang/invoke/VarHandle" ∧ (parseMethodDescriptor yX11_move.desc).map (fun d => d.parameters.length) = some 2 := by decide +kernel
theorem nh_yX11_now : yX11_now.cls = RX11 ∧ yX11_now.cls ≠ "java/lang/invoke/MethodHandle" ∧ yX11_now.cls ≠ "java/lang/invoke/VarHandle" ∧ (parseMethodDescriptor yX11_now.desc).map (fun d => d.parameters.length) = some 0 := by decide +kernel
theorem nh_yX11_parties : yX11_parties.cls = RX11 ∧ yX11_parties.cls ≠ "java/lang/invoke/MethodHandle" ∧ yX11_parties.cls ≠ "java/lang/invoke/VarHandle" ∧ (parseMethodDescriptor yX11_parties.desc).map (fun d => d.parameters.length) = some 1 := by decide +kernel
theorem nh_yX11_ratedByEvents : yX11_ratedByEvents.cls = RX11 ∧ yX11_ratedByEvents.cls ≠ "java/lang/invoke/MethodHandle" ∧ yX11_ratedByEvents.cls ≠ "java/lang/invoke/VarHandle" ∧ (parseMethodDescriptor yX11_ratedByEvents.desc).map (fun d => d.parameters.length) = some 1 := by decide +kernel
theorem nh_yX11_seal : yX11_seal.cls = RX11 ∧ yX11_seal.cls ≠ "java/lang/invoke/MethodHandle" ∧ yX11_seal.cls ≠ "java/lang/invoke/VarHandle" ∧ (parseMethodDescriptor yX11_seal.desc).map (fun d => d.parameters.length) = some 1 := by decide +kernel
theorem nh_yX11_seconds : yX11_seconds.cls = RX11 ∧ yX11_seconds.cls ≠ "java/lang/invoke/MethodHandle" ∧ yX11_seconds.cls ≠ "java/lang/invoke/VarHandle" ∧ (parseMethodDescriptor yX11_seconds.desc).map (fun d => d.parameters.length) = some 1 := by decide +kernel
theorem nh_yX11_setCap : yX11_setCap.cls = RX11 ∧ yX11_setCap.cls ≠ "java/lang/invoke/MethodHandle" ∧ yX11_setCap.cls ≠ "java/lang/invoke/VarHandle" ∧ (parseMethodDescriptor yX11_setCap.desc).map (fun d => d.parameters.length) = some 2 := by decide +kernel
theorem nh_yX11_setChannels : yX11_setChannels.cls = RX11 ∧ yX11_setChannels.cls ≠ "java/lang/invoke/MethodHandle" ∧ yX11_setChannels.cls ≠ "java/lang/invoke/VarHandle" ∧ (parseMethodDescriptor yX11_setChannels.desc).map (fun d => d.parameters.length) = some 3 := by decide +kernel
theorem nh_yX11_setRate : yX11_setRate.cls = RX11 ∧ yX11_setRate.cls ≠ "java/lang/invoke/MethodHandle" ∧ yX11_setRate.cls ≠ "java/lang/invoke/VarHandle" ∧ (parseMethodDescriptor yX11_setRate.desc).map (fun d => d.parameters.length) = some 3 := by decide +kernel
theorem nh_yX11_setSlice : yX11_setSlice.cls = RX11 ∧ yX11_setSlice.cls ≠ "java/lang/invoke/MethodHandle" ∧ yX11_setSlice.cls ≠ "java/lang/invoke/VarHandle" ∧ (parseMethodDescriptor yX11_setSlice.desc).map (fun d => d.parameters.length) = some 1 := by decide +kernel
theorem nh_yX11_sliceOf : yX11_sliceOf.cls = RX11 ∧ yX11_sliceOf.cls ≠ "java/lang/invoke/MethodHandle" ∧ yX11_sliceOf.cls ≠ "java/lang/invoke/VarHandle" ∧ (parseMethodDescriptor yX11_sliceOf.desc).map (fun d => d.parameters.length) = some 1 := by decide +kernel
theorem nh_yX11_spent : yX11_spent.cls = RX11 ∧ yX11_spent.cls ≠ "java/lang/invoke/MethodHandle" ∧ yX11_spent.cls ≠ "java/lang/invoke/VarHandle" ∧ (parseMethodDescriptor yX11_spent.desc).map (fun d => d.parameters.length) = some 1 := by decide +kernel
theorem nh_yX11_stamp : yX11_stamp.cls = RX11 ∧ yX11_stamp.cls ≠ "java/lang/invoke/MethodHandle" ∧ yX11_stamp.cls ≠ "java/lang/invoke/VarHandle" ∧ (parseMethodDescriptor yX11_stamp.desc).map (fun d => d.parameters.length) = some 1 := by decide +kernel
theorem nh_yX11_stateOf : yX11_stateOf.cls = RX11 ∧ yX11_stateOf.cls ≠ "java/lang/invoke/MethodHandle" ∧ yX11_stateOf.cls ≠ "java/lang/invoke/VarHandle" ∧ (parseMethodDescriptor yX11_stateOf.desc).map (fun d => d.parameters.length) = some 1 := by decide +kernel
theorem nh_yX11_tag : yX11_tag.cls = RX11 ∧ yX11_tag.cls ≠ "java/lang/invoke/MethodHandle" ∧ yX11_tag.cls ≠ "java/lang/invoke/VarHandle" ∧ (parseMethodDescriptor yX11_tag.desc).map (fun d => d.parameters.length) = some 1 := by decide +kernel
theorem nh_yX11_top : yX11_top.cls = RX11 ∧ yX11_top.cls ≠ "java/lang/invoke/MethodHandle" ∧ yX11_top.cls ≠ "java/lang/invoke/VarHandle" ∧ (parseMethodDescriptor yX11_top.desc).map (fun d => d.parameters.length) = some 2 := by decide +kernel
