set_option maxRecDepth 100000 in
theorem m_X11_init : mok yX11_init cX11_init 1 none 0 := ⟨(gwt_1 1 rfl rfl), (gwt_1 28 rfl rfl), ⟨nh_X11.1, nh_X11.2, pd_11⟩, by decide⟩
set_option maxRecDepth 100000 in
theorem im_X11_init : Cond.instanceMethod yX11_init ∈ gw := (gwt_1 27 rfl rfl)
set_option maxRecDepth 100000 in
theorem m_X10_init : mok yX10_init cX10_init 1 none 0 := ⟨(gwt_1 2 rfl rfl), (gwt_1 36 rfl rfl), ⟨nh_X10.1, nh_X10.2, pd_11⟩, by decide⟩
set_option maxRecDepth 100000 in
theorem im_X10_init : Cond.instanceMethod yX10_init ∈ gw := (gwt_1 35 rfl rfl)
set_option maxRecDepth 100000 in
theorem m_X9_init : mok yX9_init cX9_init 2 none 1 := ⟨(gwt_1 3 rfl rfl), (gwt_1 116 rfl rfl), ⟨nh_X9.1, nh_X9.2, pd_34⟩, by decide⟩
set_option maxRecDepth 100000 in
theorem im_X9_init : Cond.instanceMethod yX9_init ∈ gw := (gwt_1 115 rfl rfl)
set_option maxRecDepth 100000 in
theorem m_X5_init : mok yX5_init cX5_init 2 none 1 := ⟨(gwt_1 4 rfl rfl), (gwt_1 139 rfl rfl), ⟨nh_X5.1, nh_X5.2, pd_34⟩, by decide⟩
set_option maxRecDepth 100000 in
theorem im_X5_init : Cond.instanceMethod yX5_init ∈ gw := (gwt_1 138 rfl rfl)
set_option maxRecDepth 100000 in
theorem m_X8_init : mok yX8_init cX8_init 1 none 0 := ⟨(gwt_1 5 rfl rfl), (gwt_1 163 rfl rfl), ⟨nh_X8.1, nh_X8.2, pd_11⟩, by decide⟩
set_option maxRecDepth 100000 in
theorem im_X8_init : Cond.instanceMethod yX8_init ∈ gw := (gwt_1 162 rfl rfl)
set_option maxRecDepth 100000 in
theorem m_X3_init : mok yX3_init cX3_init 3 none 2 := ⟨(gwt_1 6 rfl rfl), (gwt_1 239 rfl rfl), ⟨nh_X3.1, nh_X3.2, pd_28⟩, by decide⟩
set_option maxRecDepth 100000 in
theorem im_X3_init : Cond.instanceMethod yX3_init ∈ gw := (gwt_1 238 rfl rfl)
set_option maxRecDepth 100000 in
theorem m_X1_init : mok yX1_init cX1_init 2 none 1 := ⟨(gwt_1 7 rfl rfl), (gwt_2 27 rfl rfl), ⟨nh_X1.1, nh_X1.2, pd_24⟩, by decide⟩
set_option maxRecDepth 100000 in
theorem im_X1_init : Cond.instanceMethod yX1_init ∈ gw := (gwt_2 26 rfl rfl)
set_option maxRecDepth 100000 in
theorem m_X7_init : mok yX7_init cX7_init 1 none 0 := ⟨(gwt_1 8 rfl rfl), (gwt_2 66 rfl rfl), ⟨nh_X7.1, nh_X7.2, pd_11⟩, by decide⟩
set_option maxRecDepth 100000 in
theorem im_X7_init : Cond.instanceMethod yX7_init ∈ gw := (gwt_2 65 rfl rfl)
set_option maxRecDepth 100000 in
theorem m_X0_init : mok yX0_init cX0_init 1 none 0 := ⟨(gwt_1 9 rfl rfl), (gwt_2 72 rfl rfl), ⟨nh_X0.1, nh_X0.2, pd_11⟩, by decide⟩
set_option maxRecDepth 100000 in
theorem im_X0_init : Cond.instanceMethod yX0_init ∈ gw := (gwt_2 71 rfl rfl)
set_option maxRecDepth 100000 in
theorem m_X4_init : mok yX4_init cX4_init 2 none 1 := ⟨(gwt_1 10 rfl rfl), (gwt_2 86 rfl rfl), ⟨nh_X4.1, nh_X4.2, pd_32⟩, by decide⟩
set_option maxRecDepth 100000 in
theorem im_X4_init : Cond.instanceMethod yX4_init ∈ gw := (gwt_2 85 rfl rfl)
set_option maxRecDepth 100000 in
theorem m_X2_init : mok yX2_init cX2_init 1 none 0 := ⟨(gwt_1 11 rfl rfl), (gwt_2 211 rfl rfl), ⟨nh_X2.1, nh_X2.2, pd_11⟩, by decide⟩
set_option maxRecDepth 100000 in
theorem im_X2_init : Cond.instanceMethod yX2_init ∈ gw := (gwt_2 210 rfl rfl)
set_option maxRecDepth 100000 in
theorem m_X6_init : mok yX6_init cX6_init 1 none 0 := ⟨(gwt_1 12 rfl rfl), (gwt_3 15 rfl rfl), ⟨nh_X6.1, nh_X6.2, pd_11⟩, by decide⟩
set_option maxRecDepth 100000 in
theorem im_X6_init : Cond.instanceMethod yX6_init ∈ gw := (gwt_3 14 rfl rfl)
set_option maxRecDepth 100000 in
theorem m_X11_feed : mok yX11_feed cX11_feed 6 (some .int) 5 := ⟨(gwt_1 1 rfl rfl), (gwt_3 90 rfl rfl), ⟨nh_X11.1, nh_X11.2, pd_19⟩, by decide⟩
set_option maxRecDepth 100000 in
theorem i_X11_feed : iok yX11_feed := ⟨(gwt_3 88 rfl rfl), (gwt_3 89 rfl rfl)⟩
set_option maxRecDepth 100000 in
theorem m_X11_addNumber : mok yX11_addNumber cX11_addNumber 3 none 1 := ⟨(gwt_1 1 rfl rfl), (gwt_3 94 rfl rfl), ⟨nh_X11.1, nh_X11.2, pd_18⟩, by decide⟩
set_option maxRecDepth 100000 in
theorem i_X11_addNumber : iok yX11_addNumber := ⟨(gwt_3 93 rfl rfl), (gwt_0 0 rfl rfl)⟩
set_option maxRecDepth 100000 in
theorem m_X11_end : mok yX11_end cX11_end 2 (some .int) 1 := ⟨(gwt_1 1 rfl rfl), (gwt_3 98 rfl rfl), ⟨nh_X11.1, nh_X11.2, pd_2⟩, by decide⟩
set_option maxRecDepth 100000 in
theorem i_X11_end : iok yX11_end := ⟨(gwt_3 96 rfl rfl), (gwt_3 97 rfl rfl)⟩
set_option maxRecDepth 100000 in
theorem m_X11_grammar : mok yX11_grammar cX11_grammar 4 (some .int) 0 := ⟨(gwt_1 1 rfl rfl), (gwt_3 102 rfl rfl), ⟨nh_X11.1, nh_X11.2, pd_20⟩, by decide⟩
set_option maxRecDepth 100000 in
theorem i_X11_grammar : iok yX11_grammar := ⟨(gwt_3 100 rfl rfl), (gwt_3 101 rfl rfl)⟩
set_option maxRecDepth 100000 in
theorem m_X9_readText : mok yX9_readText cX9_readText 4 (some .boolean) 2 := ⟨(gwt_1 3 rfl rfl), (gwt_3 106 rfl rfl), ⟨nh_X9.1, nh_X9.2, pd_40⟩, by decide⟩
set_option maxRecDepth 100000 in
theorem i_X9_readText : iok yX9_readText := ⟨(gwt_3 104 rfl rfl), (gwt_3 105 rfl rfl)⟩
set_option maxRecDepth 100000 in
theorem m_X10_clear : mok yX10_clear cX10_clear 1 none 0 := ⟨(gwt_1 2 rfl rfl), (gwt_3 110 rfl rfl), ⟨nh_X10.1, nh_X10.2, pd_11⟩, by decide⟩
set_option maxRecDepth 100000 in
theorem i_X10_clear : iok yX10_clear := ⟨(gwt_3 108 rfl rfl), (gwt_3 109 rfl rfl)⟩
set_option maxRecDepth 100000 in
theorem m_X9_skipBlanks : mok yX9_skipBlanks cX9_skipBlanks 3 none 0 := ⟨(gwt_1 3 rfl rfl), (gwt_3 114 rfl rfl), ⟨nh_X9.1, nh_X9.2, pd_11⟩, by decide⟩
set_option maxRecDepth 100000 in
theorem i_X9_skipBlanks : iok yX9_skipBlanks := ⟨(gwt_3 113 rfl rfl), (gwt_0 1 rfl rfl)⟩
set_option maxRecDepth 100000 in
theorem m_X9_readRule : mok yX9_readRule cX9_readRule 3 (some .boolean) 1 := ⟨(gwt_1 3 rfl rfl), (gwt_3 118 rfl rfl), ⟨nh_X9.1, nh_X9.2, pd_10⟩, by decide⟩
set_option maxRecDepth 100000 in
theorem i_X9_readRule : iok yX9_readRule := ⟨(gwt_3 117 rfl rfl), (gwt_0 2 rfl rfl)⟩
set_option maxRecDepth 100000 in
theorem m_X9_readName : mok yX9_readName cX9_readName 3 (some .boolean) 0 := ⟨(gwt_1 3 rfl rfl), (gwt_3 122 rfl rfl), ⟨nh_X9.1, nh_X9.2, pd_23⟩, by decide⟩
set_option maxRecDepth 100000 in
theorem i_X9_readName : iok yX9_readName := ⟨(gwt_3 121 rfl rfl), (gwt_0 3 rfl rfl)⟩
set_option maxRecDepth 100000 in
theorem m_X9_sign : mok yX9_sign cX9_sign 1 (some .int) 0 := ⟨(gwt_1 3 rfl rfl), (gwt_3 126 rfl rfl), ⟨nh_X9.1, nh_X9.2, pd_20⟩, by decide⟩
set_option maxRecDepth 100000 in
theorem i_X9_sign : iok yX9_sign := ⟨(gwt_3 125 rfl rfl), (gwt_0 4 rfl rfl)⟩
set_option maxRecDepth 100000 in
theorem m_X9_startsName : mok yX9_startsName cX9_startsName 1 (some .boolean) 1 := ⟨(gwt_1 3 rfl rfl), (gwt_3 129 rfl rfl), ⟨nh_X9.1, nh_X9.2, pd_10⟩, by decide⟩
set_option maxRecDepth 100000 in
theorem s_X9_startsName : Cond.static yX9_startsName ∈ gw := (gwt_3 128 rfl rfl)
set_option maxRecDepth 100000 in
theorem m_X9_refuse : mok yX9_refuse cX9_refuse 1 (some .int) 0 := ⟨(gwt_1 3 rfl rfl), (gwt_3 133 rfl rfl), ⟨nh_X9.1, nh_X9.2, pd_20⟩, by decide⟩
set_option maxRecDepth 100000 in
theorem i_X9_refuse : iok yX9_refuse := ⟨(gwt_3 132 rfl rfl), (gwt_0 5 rfl rfl)⟩
set_option maxRecDepth 100000 in
theorem m_X9_takeSign : mok yX9_takeSign cX9_takeSign 2 (some .boolean) 1 := ⟨(gwt_1 3 rfl rfl), (gwt_3 137 rfl rfl), ⟨nh_X9.1, nh_X9.2, pd_10⟩, by decide⟩
set_option maxRecDepth 100000 in
theorem i_X9_takeSign : iok yX9_takeSign := ⟨(gwt_3 136 rfl rfl), (gwt_0 6 rfl rfl)⟩
set_option maxRecDepth 100000 in
theorem m_X9_readChoice : mok yX9_readChoice cX9_readChoice 5 (some .int) 1 := ⟨(gwt_1 3 rfl rfl), (gwt_3 141 rfl rfl), ⟨nh_X9.1, nh_X9.2, pd_2⟩, by decide⟩
set_option maxRecDepth 100000 in
theorem i_X9_readChoice : iok yX9_readChoice := ⟨(gwt_3 140 rfl rfl), (gwt_0 7 rfl rfl)⟩
set_option maxRecDepth 100000 in
theorem m_X9_readSequence : mok yX9_readSequence cX9_readSequence 5 (some .int) 1 := ⟨(gwt_1 3 rfl rfl), (gwt_3 145 rfl rfl), ⟨nh_X9.1, nh_X9.2, pd_2⟩, by decide⟩
set_option maxRecDepth 100000 in
theorem i_X9_readSequence : iok yX9_readSequence := ⟨(gwt_3 144 rfl rfl), (gwt_0 8 rfl rfl)⟩
set_option maxRecDepth 100000 in
theorem m_X9_startsPrefix : mok yX9_startsPrefix cX9_startsPrefix 1 (some .boolean) 1 := ⟨(gwt_1 3 rfl rfl), (gwt_3 148 rfl rfl), ⟨nh_X9.1, nh_X9.2, pd_10⟩, by decide⟩
set_option maxRecDepth 100000 in
theorem s_X9_startsPrefix : Cond.static yX9_startsPrefix ∈ gw := (gwt_3 147 rfl rfl)
set_option maxRecDepth 100000 in
theorem m_X9_readPrefix : mok yX9_readPrefix cX9_readPrefix 7 (some .int) 1 := ⟨(gwt_1 3 rfl rfl), (gwt_3 152 rfl rfl), ⟨nh_X9.1, nh_X9.2, pd_2⟩, by decide⟩
set_option maxRecDepth 100000 in
theorem i_X9_readPrefix : iok yX9_readPrefix := ⟨(gwt_3 151 rfl rfl), (gwt_0 9 rfl rfl)⟩
set_option maxRecDepth 100000 in
theorem m_X9_readSuffix : mok yX9_readSuffix cX9_readSuffix 5 (some .int) 1 := ⟨(gwt_1 3 rfl rfl), (gwt_3 157 rfl rfl), ⟨nh_X9.1, nh_X9.2, pd_2⟩, by decide⟩
set_option maxRecDepth 100000 in
theorem i_X9_readSuffix : iok yX9_readSuffix := ⟨(gwt_3 156 rfl rfl), (gwt_0 10 rfl rfl)⟩
set_option maxRecDepth 100000 in
theorem m_X9_readPrimary : mok yX9_readPrimary cX9_readPrimary 6 (some .int) 1 := ⟨(gwt_1 3 rfl rfl), (gwt_3 161 rfl rfl), ⟨nh_X9.1, nh_X9.2, pd_2⟩, by decide⟩
set_option maxRecDepth 100000 in
theorem i_X9_readPrimary : iok yX9_readPrimary := ⟨(gwt_3 160 rfl rfl), (gwt_0 11 rfl rfl)⟩
set_option maxRecDepth 100000 in
theorem m_X10_add : mok yX10_add cX10_add 6 (some .int) 4 := ⟨(gwt_1 2 rfl rfl), (gwt_3 165 rfl rfl), ⟨nh_X10.1, nh_X10.2, pd_16⟩, by decide⟩
set_option maxRecDepth 100000 in
theorem i_X10_add : iok yX10_add := ⟨(gwt_3 163 rfl rfl), (gwt_3 164 rfl rfl)⟩
set_option maxRecDepth 100000 in
theorem m_J7_fill_fda19 : mok yJ7_fill_fda19 cJ7_fill_fda19 5 none 4 := ⟨(gwt_1 19 rfl rfl), (gwt_3 168 rfl rfl), ⟨nh_J7.1, nh_J7.2, pd_5⟩, by decide⟩
set_option maxRecDepth 100000 in
theorem s_J7_fill_fda19 : Cond.static yJ7_fill_fda19 ∈ gw := (gwt_3 167 rfl rfl)
set_option maxRecDepth 100000 in
theorem m_J7_rangeCheck_23922 : mok yJ7_rangeCheck_23922 cJ7_rangeCheck_23922 3 none 3 := ⟨(gwt_1 19 rfl rfl), (gwt_3 171 rfl rfl), ⟨nh_J7.1, nh_J7.2, pd_6⟩, by decide⟩
set_option maxRecDepth 100000 in
theorem s_J7_rangeCheck_23922 : Cond.static yJ7_rangeCheck_23922 ∈ gw := (gwt_3 170 rfl rfl)
set_option maxRecDepth 100000 in
theorem m_X9_readLiteral : mok yX9_readLiteral cX9_readLiteral 5 (some .int) 0 := ⟨(gwt_1 3 rfl rfl), (gwt_3 175 rfl rfl), ⟨nh_X9.1, nh_X9.2, pd_20⟩, by decide⟩
set_option maxRecDepth 100000 in
theorem i_X9_readLiteral : iok yX9_readLiteral := ⟨(gwt_3 174 rfl rfl), (gwt_0 12 rfl rfl)⟩
set_option maxRecDepth 100000 in
theorem m_X9_readByte : mok yX9_readByte cX9_readByte 4 (some .int) 1 := ⟨(gwt_1 3 rfl rfl), (gwt_3 179 rfl rfl), ⟨nh_X9.1, nh_X9.2, pd_39⟩, by decide⟩
set_option maxRecDepth 100000 in
theorem i_X9_readByte : iok yX9_readByte := ⟨(gwt_3 178 rfl rfl), (gwt_0 13 rfl rfl)⟩
set_option maxRecDepth 100000 in
theorem m_X9_readEscape : mok yX9_readEscape cX9_readEscape 5 (some .int) 0 := ⟨(gwt_1 3 rfl rfl), (gwt_3 183 rfl rfl), ⟨nh_X9.1, nh_X9.2, pd_20⟩, by decide⟩
set_option maxRecDepth 100000 in
theorem i_X9_readEscape : iok yX9_readEscape := ⟨(gwt_3 182 rfl rfl), (gwt_0 14 rfl rfl)⟩
set_option maxRecDepth 100000 in
theorem m_X9_hexValue : mok yX9_hexValue cX9_hexValue 1 (some .int) 1 := ⟨(gwt_1 3 rfl rfl), (gwt_3 186 rfl rfl), ⟨nh_X9.1, nh_X9.2, pd_2⟩, by decide⟩
set_option maxRecDepth 100000 in
theorem s_X9_hexValue : Cond.static yX9_hexValue ∈ gw := (gwt_3 185 rfl rfl)
set_option maxRecDepth 100000 in
theorem m_X9_addPlain : mok yX9_addPlain cX9_addPlain 4 (some .int) 2 := ⟨(gwt_1 3 rfl rfl), (gwt_3 190 rfl rfl), ⟨nh_X9.1, nh_X9.2, pd_7⟩, by decide⟩
set_option maxRecDepth 100000 in
theorem i_X9_addPlain : iok yX9_addPlain := ⟨(gwt_3 189 rfl rfl), (gwt_0 15 rfl rfl)⟩
set_option maxRecDepth 100000 in
theorem m_X10_addBytes : mok yX10_addBytes cX10_addBytes 5 none 3 := ⟨(gwt_1 2 rfl rfl), (gwt_3 194 rfl rfl), ⟨nh_X10.1, nh_X10.2, pd_6⟩, by decide⟩
set_option maxRecDepth 100000 in
theorem i_X10_addBytes : iok yX10_addBytes := ⟨(gwt_3 192 rfl rfl), (gwt_3 193 rfl rfl)⟩
set_option maxRecDepth 100000 in
theorem m_X10_linkPart : mok yX10_linkPart cX10_linkPart 3 (some .int) 2 := ⟨(gwt_1 2 rfl rfl), (gwt_3 198 rfl rfl), ⟨nh_X10.1, nh_X10.2, pd_7⟩, by decide⟩
set_option maxRecDepth 100000 in
theorem i_X10_linkPart : iok yX10_linkPart := ⟨(gwt_3 196 rfl rfl), (gwt_3 197 rfl rfl)⟩
set_option maxRecDepth 100000 in
theorem m_X10_joinCases : mok yX10_joinCases cX10_joinCases 5 none 1 := ⟨(gwt_1 2 rfl rfl), (gwt_3 202 rfl rfl), ⟨nh_X10.1, nh_X10.2, pd_18⟩, by decide⟩
set_option maxRecDepth 100000 in
theorem i_X10_joinCases : iok yX10_joinCases := ⟨(gwt_3 200 rfl rfl), (gwt_3 201 rfl rfl)⟩
set_option maxRecDepth 100000 in
theorem m_X10_fold : mok yX10_fold cX10_fold 7 (some .int) 2 := ⟨(gwt_1 2 rfl rfl), (gwt_3 207 rfl rfl), ⟨nh_X10.1, nh_X10.2, pd_7⟩, by decide⟩
set_option maxRecDepth 100000 in
theorem i_X10_fold : iok yX10_fold := ⟨(gwt_3 205 rfl rfl), (gwt_3 206 rfl rfl)⟩
set_option maxRecDepth 100000 in
theorem m_X9_readClass : mok yX9_readClass cX9_readClass 7 (some .int) 0 := ⟨(gwt_1 3 rfl rfl), (gwt_3 212 rfl rfl), ⟨nh_X9.1, nh_X9.2, pd_20⟩, by decide⟩
set_option maxRecDepth 100000 in
theorem i_X9_readClass : iok yX9_readClass := ⟨(gwt_3 211 rfl rfl), (gwt_0 16 rfl rfl)⟩
set_option maxRecDepth 100000 in
theorem m_X10_turnBytes : mok yX10_turnBytes cX10_turnBytes 3 none 1 := ⟨(gwt_1 2 rfl rfl), (gwt_3 216 rfl rfl), ⟨nh_X10.1, nh_X10.2, pd_18⟩, by decide⟩
set_option maxRecDepth 100000 in
theorem i_X10_turnBytes : iok yX10_turnBytes := ⟨(gwt_3 214 rfl rfl), (gwt_3 215 rfl rfl)⟩
set_option maxRecDepth 100000 in
theorem m_X9_readRepeat : mok yX9_readRepeat cX9_readRepeat 3 (some .int) 1 := ⟨(gwt_1 3 rfl rfl), (gwt_3 220 rfl rfl), ⟨nh_X9.1, nh_X9.2, pd_2⟩, by decide⟩
set_option maxRecDepth 100000 in
theorem i_X9_readRepeat : iok yX9_readRepeat := ⟨(gwt_3 219 rfl rfl), (gwt_0 17 rfl rfl)⟩
set_option maxRecDepth 100000 in
theorem m_X9_readLoop : mok yX9_readLoop cX9_readLoop 5 (some .int) 2 := ⟨(gwt_1 3 rfl rfl), (gwt_3 224 rfl rfl), ⟨nh_X9.1, nh_X9.2, pd_7⟩, by decide⟩
set_option maxRecDepth 100000 in
theorem i_X9_readLoop : iok yX9_readLoop := ⟨(gwt_3 223 rfl rfl), (gwt_0 18 rfl rfl)⟩
set_option maxRecDepth 100000 in
theorem m_X10_linkChoice : mok yX10_linkChoice cX10_linkChoice 4 (some .int) 2 := ⟨(gwt_1 2 rfl rfl), (gwt_3 228 rfl rfl), ⟨nh_X10.1, nh_X10.2, pd_7⟩, by decide⟩
set_option maxRecDepth 100000 in
theorem i_X10_linkChoice : iok yX10_linkChoice := ⟨(gwt_3 226 rfl rfl), (gwt_3 227 rfl rfl)⟩
set_option maxRecDepth 100000 in
theorem m_X11_noteFault : mok yX11_noteFault cX11_noteFault 3 (some .int) 2 := ⟨(gwt_1 1 rfl rfl), (gwt_3 233 rfl rfl), ⟨nh_X11.1, nh_X11.2, pd_7⟩, by decide⟩
set_option maxRecDepth 100000 in
theorem i_X11_noteFault : iok yX11_noteFault := ⟨(gwt_3 232 rfl rfl), (gwt_0 19 rfl rfl)⟩
set_option maxRecDepth 100000 in
theorem m_X5_findKind : mok yX5_findKind cX5_findKind 2 (some .int) 1 := ⟨(gwt_1 4 rfl rfl), (gwt_3 237 rfl rfl), ⟨nh_X5.1, nh_X5.2, pd_33⟩, by decide⟩
set_option maxRecDepth 100000 in
theorem i_X5_findKind : iok yX5_findKind := ⟨(gwt_3 235 rfl rfl), (gwt_3 236 rfl rfl)⟩
set_option maxRecDepth 100000 in
theorem m_X5_bindNames : mok yX5_bindNames cX5_bindNames 2 none 0 := ⟨(gwt_1 4 rfl rfl), (gwt_4 1 rfl rfl), ⟨nh_X5.1, nh_X5.2, pd_11⟩, by decide⟩
set_option maxRecDepth 100000 in
theorem i_X5_bindNames : iok yX5_bindNames := ⟨(gwt_4 0 rfl rfl), (gwt_0 20 rfl rfl)⟩
set_option maxRecDepth 100000 in
theorem m_X5_findRule : mok yX5_findRule cX5_findRule 4 (some .int) 2 := ⟨(gwt_1 4 rfl rfl), (gwt_4 5 rfl rfl), ⟨nh_X5.1, nh_X5.2, pd_7⟩, by decide⟩
set_option maxRecDepth 100000 in
theorem i_X5_findRule : iok yX5_findRule := ⟨(gwt_4 4 rfl rfl), (gwt_0 21 rfl rfl)⟩
set_option maxRecDepth 100000 in
theorem m_X5_sameBytes : mok yX5_sameBytes cX5_sameBytes 5 (some .boolean) 3 := ⟨(gwt_1 4 rfl rfl), (gwt_4 9 rfl rfl), ⟨nh_X5.1, nh_X5.2, pd_35⟩, by decide⟩
set_option maxRecDepth 100000 in
theorem i_X5_sameBytes : iok yX5_sameBytes := ⟨(gwt_4 8 rfl rfl), (gwt_0 22 rfl rfl)⟩
set_option maxRecDepth 100000 in
theorem m_X5_blame : mok yX5_blame cX5_blame 2 none 1 := ⟨(gwt_1 4 rfl rfl), (gwt_4 13 rfl rfl), ⟨nh_X5.1, nh_X5.2, pd_18⟩, by decide⟩
set_option maxRecDepth 100000 in
theorem i_X5_blame : iok yX5_blame := ⟨(gwt_4 12 rfl rfl), (gwt_0 23 rfl rfl)⟩
set_option maxRecDepth 100000 in
theorem m_X5_findSecondNames : mok yX5_findSecondNames cX5_findSecondNames 2 none 0 := ⟨(gwt_1 4 rfl rfl), (gwt_4 17 rfl rfl), ⟨nh_X5.1, nh_X5.2, pd_11⟩, by decide⟩
set_option maxRecDepth 100000 in
theorem i_X5_findSecondNames : iok yX5_findSecondNames := ⟨(gwt_4 16 rfl rfl), (gwt_0 24 rfl rfl)⟩
set_option maxRecDepth 100000 in
theorem m_X5_findFacts : mok yX5_findFacts cX5_findFacts 5 none 0 := ⟨(gwt_1 4 rfl rfl), (gwt_4 21 rfl rfl), ⟨nh_X5.1, nh_X5.2, pd_11⟩, by decide⟩
set_option maxRecDepth 100000 in
theorem i_X5_findFacts : iok yX5_findFacts := ⟨(gwt_4 20 rfl rfl), (gwt_0 25 rfl rfl)⟩
set_option maxRecDepth 100000 in
theorem m_X5_factsOf : mok yX5_factsOf cX5_factsOf 5 (some .int) 1 := ⟨(gwt_1 4 rfl rfl), (gwt_4 25 rfl rfl), ⟨nh_X5.1, nh_X5.2, pd_2⟩, by decide⟩
set_option maxRecDepth 100000 in
theorem i_X5_factsOf : iok yX5_factsOf := ⟨(gwt_4 24 rfl rfl), (gwt_0 26 rfl rfl)⟩
set_option maxRecDepth 100000 in
theorem m_X5_factsInRow : mok yX5_factsInRow cX5_factsInRow 3 (some .int) 2 := ⟨(gwt_1 4 rfl rfl), (gwt_4 28 rfl rfl), ⟨nh_X5.1, nh_X5.2, pd_7⟩, by decide⟩
set_option maxRecDepth 100000 in
theorem s_X5_factsInRow : Cond.static yX5_factsInRow ∈ gw := (gwt_4 27 rfl rfl)
set_option maxRecDepth 100000 in
theorem m_X5_findBegins : mok yX5_findBegins cX5_findBegins 3 none 0 := ⟨(gwt_1 4 rfl rfl), (gwt_4 32 rfl rfl), ⟨nh_X5.1, nh_X5.2, pd_11⟩, by decide⟩
set_option maxRecDepth 100000 in
theorem i_X5_findBegins : iok yX5_findBegins := ⟨(gwt_4 31 rfl rfl), (gwt_0 27 rfl rfl)⟩
set_option maxRecDepth 100000 in
theorem m_X5_goesRight : mok yX5_goesRight cX5_goesRight 3 (some .boolean) 1 := ⟨(gwt_1 4 rfl rfl), (gwt_4 36 rfl rfl), ⟨nh_X5.1, nh_X5.2, pd_10⟩, by decide⟩
set_option maxRecDepth 100000 in
theorem i_X5_goesRight : iok yX5_goesRight := ⟨(gwt_4 35 rfl rfl), (gwt_0 28 rfl rfl)⟩
set_option maxRecDepth 100000 in
theorem m_X10_has : mok yX10_has cX10_has 3 (some .boolean) 2 := ⟨(gwt_1 2 rfl rfl), (gwt_4 40 rfl rfl), ⟨nh_X10.1, nh_X10.2, pd_17⟩, by decide⟩
set_option maxRecDepth 100000 in
theorem i_X10_has : iok yX10_has := ⟨(gwt_4 38 rfl rfl), (gwt_4 39 rfl rfl)⟩
set_option maxRecDepth 100000 in
theorem m_X5_findLeft : mok yX5_findLeft cX5_findLeft 3 (some .boolean) 0 := ⟨(gwt_1 4 rfl rfl), (gwt_4 44 rfl rfl), ⟨nh_X5.1, nh_X5.2, pd_23⟩, by decide⟩
set_option maxRecDepth 100000 in
theorem i_X5_findLeft : iok yX5_findLeft := ⟨(gwt_4 43 rfl rfl), (gwt_0 29 rfl rfl)⟩
set_option maxRecDepth 100000 in
theorem m_X5_findEndless : mok yX5_findEndless cX5_findEndless 3 none 0 := ⟨(gwt_1 4 rfl rfl), (gwt_4 48 rfl rfl), ⟨nh_X5.1, nh_X5.2, pd_11⟩, by decide⟩
set_option maxRecDepth 100000 in
theorem i_X5_findEndless : iok yX5_findEndless := ⟨(gwt_4 47 rfl rfl), (gwt_0 30 rfl rfl)⟩
set_option maxRecDepth 100000 in
theorem m_X5_findFirsts : mok yX5_findFirsts cX5_findFirsts 3 none 0 := ⟨(gwt_1 4 rfl rfl), (gwt_4 52 rfl rfl), ⟨nh_X5.1, nh_X5.2, pd_11⟩, by decide⟩
set_option maxRecDepth 100000 in
theorem i_X5_findFirsts : iok yX5_findFirsts := ⟨(gwt_4 51 rfl rfl), (gwt_0 31 rfl rfl)⟩
set_option maxRecDepth 100000 in
theorem m_J13_bitCount_95d88 : mok yJ13_bitCount_95d88 cJ13_bitCount_95d88 2 (some .int) 1 := ⟨(gwt_1 20 rfl rfl), (gwt_4 55 rfl rfl), ⟨nh_J13.1, nh_J13.2, pd_0⟩, by decide⟩
set_option maxRecDepth 100000 in
theorem s_J13_bitCount_95d88 : Cond.static yJ13_bitCount_95d88 ∈ gw := (gwt_4 54 rfl rfl)
set_option maxRecDepth 100000 in
theorem m_X5_takeFirsts : mok yX5_takeFirsts cX5_takeFirsts 5 none 2 := ⟨(gwt_1 4 rfl rfl), (gwt_4 62 rfl rfl), ⟨nh_X5.1, nh_X5.2, pd_13⟩, by decide⟩
set_option maxRecDepth 100000 in
theorem i_X5_takeFirsts : iok yX5_takeFirsts := ⟨(gwt_4 61 rfl rfl), (gwt_0 32 rfl rfl)⟩
set_option maxRecDepth 100000 in
theorem m_X5_joinFirst : mok yX5_joinFirst cX5_joinFirst 4 none 2 := ⟨(gwt_1 4 rfl rfl), (gwt_4 66 rfl rfl), ⟨nh_X5.1, nh_X5.2, pd_13⟩, by decide⟩
set_option maxRecDepth 100000 in
theorem i_X5_joinFirst : iok yX5_joinFirst := ⟨(gwt_4 65 rfl rfl), (gwt_0 33 rfl rfl)⟩
set_option maxRecDepth 100000 in
theorem m_X3_makeProgram : mok yX3_makeProgram cX3_makeProgram 3 (some .boolean) 1 := ⟨(gwt_1 6 rfl rfl), (gwt_4 70 rfl rfl), ⟨nh_X3.1, nh_X3.2, pd_25⟩, by decide⟩
set_option maxRecDepth 100000 in
theorem i_X3_makeProgram : iok yX3_makeProgram := ⟨(gwt_4 68 rfl rfl), (gwt_4 69 rfl rfl)⟩
set_option maxRecDepth 100000 in
theorem m_X3_measure : mok yX3_measure cX3_measure 2 none 0 := ⟨(gwt_1 6 rfl rfl), (gwt_4 74 rfl rfl), ⟨nh_X3.1, nh_X3.2, pd_11⟩, by decide⟩
set_option maxRecDepth 100000 in
theorem i_X3_measure : iok yX3_measure := ⟨(gwt_4 73 rfl rfl), (gwt_0 34 rfl rfl)⟩
set_option maxRecDepth 100000 in
theorem m_X3_sizeOf : mok yX3_sizeOf cX3_sizeOf 5 (some .int) 1 := ⟨(gwt_1 6 rfl rfl), (gwt_4 78 rfl rfl), ⟨nh_X3.1, nh_X3.2, pd_2⟩, by decide⟩
set_option maxRecDepth 100000 in
theorem i_X3_sizeOf : iok yX3_sizeOf := ⟨(gwt_4 77 rfl rfl), (gwt_0 35 rfl rfl)⟩
set_option maxRecDepth 100000 in
theorem m_X3_isDirect : mok yX3_isDirect cX3_isDirect 6 (some .boolean) 1 := ⟨(gwt_1 6 rfl rfl), (gwt_4 83 rfl rfl), ⟨nh_X3.1, nh_X3.2, pd_10⟩, by decide⟩
set_option maxRecDepth 100000 in
theorem i_X3_isDirect : iok yX3_isDirect := ⟨(gwt_4 82 rfl rfl), (gwt_0 36 rfl rfl)⟩
set_option maxRecDepth 100000 in
theorem m_X3_trySize : mok yX3_trySize cX3_trySize 3 (some .int) 2 := ⟨(gwt_1 6 rfl rfl), (gwt_4 87 rfl rfl), ⟨nh_X3.1, nh_X3.2, pd_15⟩, by decide⟩
set_option maxRecDepth 100000 in
theorem i_X3_trySize : iok yX3_trySize := ⟨(gwt_4 86 rfl rfl), (gwt_0 37 rfl rfl)⟩
set_option maxRecDepth 100000 in
theorem m_X3_starSize : mok yX3_starSize cX3_starSize 2 (some .int) 1 := ⟨(gwt_1 6 rfl rfl), (gwt_4 91 rfl rfl), ⟨nh_X3.1, nh_X3.2, pd_2⟩, by decide⟩
set_option maxRecDepth 100000 in
theorem i_X3_starSize : iok yX3_starSize := ⟨(gwt_4 90 rfl rfl), (gwt_0 38 rfl rfl)⟩
set_option maxRecDepth 100000 in
theorem m_J9_min_7cf53 : mok yJ9_min_7cf53 cJ9_min_7cf53 2 (some .int) 2 := ⟨(gwt_1 21 rfl rfl), (gwt_4 94 rfl rfl), ⟨nh_J9.1, nh_J9.2, pd_7⟩, by decide⟩
set_option maxRecDepth 100000 in
theorem s_J9_min_7cf53 : Cond.static yJ9_min_7cf53 ∈ gw := (gwt_4 93 rfl rfl)
set_option maxRecDepth 100000 in
theorem m_X3_coreOf : mok yX3_coreOf cX3_coreOf 2 (some .int) 1 := ⟨(gwt_1 6 rfl rfl), (gwt_4 98 rfl rfl), ⟨nh_X3.1, nh_X3.2, pd_2⟩, by decide⟩
set_option maxRecDepth 100000 in
theorem i_X3_coreOf : iok yX3_coreOf := ⟨(gwt_4 97 rfl rfl), (gwt_0 39 rfl rfl)⟩
set_option maxRecDepth 100000 in
theorem m_X3_placeRules : mok yX3_placeRules cX3_placeRules 4 (some .boolean) 0 := ⟨(gwt_1 6 rfl rfl), (gwt_4 102 rfl rfl), ⟨nh_X3.1, nh_X3.2, pd_23⟩, by decide⟩
set_option maxRecDepth 100000 in
theorem i_X3_placeRules : iok yX3_placeRules := ⟨(gwt_4 101 rfl rfl), (gwt_0 40 rfl rfl)⟩
set_option maxRecDepth 100000 in
theorem m_X3_write : mok yX3_write cX3_write 5 none 4 := ⟨(gwt_1 6 rfl rfl), (gwt_4 109 rfl rfl), ⟨nh_X3.1, nh_X3.2, pd_29⟩, by decide⟩
set_option maxRecDepth 100000 in
theorem i_X3_write : iok yX3_write := ⟨(gwt_4 108 rfl rfl), (gwt_0 41 rfl rfl)⟩
set_option maxRecDepth 100000 in
theorem m_X3_await : mok yX3_await cX3_await 3 none 2 := ⟨(gwt_1 6 rfl rfl), (gwt_4 113 rfl rfl), ⟨nh_X3.1, nh_X3.2, pd_13⟩, by decide⟩
set_option maxRecDepth 100000 in
theorem i_X3_await : iok yX3_await := ⟨(gwt_4 112 rfl rfl), (gwt_0 42 rfl rfl)⟩
set_option maxRecDepth 100000 in
theorem m_X3_writeWaiting : mok yX3_writeWaiting cX3_writeWaiting 2 none 0 := ⟨(gwt_1 6 rfl rfl), (gwt_4 117 rfl rfl), ⟨nh_X3.1, nh_X3.2, pd_11⟩, by decide⟩
set_option maxRecDepth 100000 in
theorem i_X3_writeWaiting : iok yX3_writeWaiting := ⟨(gwt_4 116 rfl rfl), (gwt_0 43 rfl rfl)⟩
set_option maxRecDepth 100000 in
theorem m_X3_writeNode : mok yX3_writeNode cX3_writeNode 5 none 2 := ⟨(gwt_1 6 rfl rfl), (gwt_4 122 rfl rfl), ⟨nh_X3.1, nh_X3.2, pd_13⟩, by decide⟩
set_option maxRecDepth 100000 in
theorem i_X3_writeNode : iok yX3_writeNode := ⟨(gwt_4 121 rfl rfl), (gwt_0 44 rfl rfl)⟩
set_option maxRecDepth 100000 in
theorem m_X3_writeByBytes : mok yX3_writeByBytes cX3_writeByBytes 9 none 4 := ⟨(gwt_1 6 rfl rfl), (gwt_4 126 rfl rfl), ⟨nh_X3.1, nh_X3.2, pd_29⟩, by decide⟩
set_option maxRecDepth 100000 in
theorem i_X3_writeByBytes : iok yX3_writeByBytes := ⟨(gwt_4 125 rfl rfl), (gwt_0 45 rfl rfl)⟩
set_option maxRecDepth 100000 in
theorem m_J6_bitCount_0f7a4 : mok yJ6_bitCount_0f7a4 cJ6_bitCount_0f7a4 1 (some .int) 1 := ⟨(gwt_1 23 rfl rfl), (gwt_4 129 rfl rfl), ⟨nh_J6.1, nh_J6.2, pd_2⟩, by decide⟩
set_option maxRecDepth 100000 in
theorem s_J6_bitCount_0f7a4 : Cond.static yJ6_bitCount_0f7a4 ∈ gw := (gwt_4 128 rfl rfl)
set_option maxRecDepth 100000 in
theorem m_X3_writeChoice : mok yX3_writeChoice cX3_writeChoice 8 none 2 := ⟨(gwt_1 6 rfl rfl), (gwt_4 136 rfl rfl), ⟨nh_X3.1, nh_X3.2, pd_13⟩, by decide⟩
set_option maxRecDepth 100000 in
theorem i_X3_writeChoice : iok yX3_writeChoice := ⟨(gwt_4 135 rfl rfl), (gwt_0 46 rfl rfl)⟩
set_option maxRecDepth 100000 in
theorem m_X3_writeTry : mok yX3_writeTry cX3_writeTry 6 none 4 := ⟨(gwt_1 6 rfl rfl), (gwt_4 140 rfl rfl), ⟨nh_X3.1, nh_X3.2, pd_30⟩, by decide⟩
set_option maxRecDepth 100000 in
theorem i_X3_writeTry : iok yX3_writeTry := ⟨(gwt_4 139 rfl rfl), (gwt_0 47 rfl rfl)⟩
set_option maxRecDepth 100000 in
theorem m_X3_writeOption : mok yX3_writeOption cX3_writeOption 6 none 2 := ⟨(gwt_1 6 rfl rfl), (gwt_4 144 rfl rfl), ⟨nh_X3.1, nh_X3.2, pd_13⟩, by decide⟩
set_option maxRecDepth 100000 in
theorem i_X3_writeOption : iok yX3_writeOption := ⟨(gwt_4 143 rfl rfl), (gwt_0 48 rfl rfl)⟩
set_option maxRecDepth 100000 in
theorem m_X3_writeStar : mok yX3_writeStar cX3_writeStar 6 none 2 := ⟨(gwt_1 6 rfl rfl), (gwt_4 148 rfl rfl), ⟨nh_X3.1, nh_X3.2, pd_13⟩, by decide⟩
set_option maxRecDepth 100000 in
theorem i_X3_writeStar : iok yX3_writeStar := ⟨(gwt_4 147 rfl rfl), (gwt_0 49 rfl rfl)⟩
set_option maxRecDepth 100000 in
theorem m_X3_writeNot : mok yX3_writeNot cX3_writeNot 6 none 2 := ⟨(gwt_1 6 rfl rfl), (gwt_4 152 rfl rfl), ⟨nh_X3.1, nh_X3.2, pd_13⟩, by decide⟩
set_option maxRecDepth 100000 in
theorem i_X3_writeNot : iok yX3_writeNot := ⟨(gwt_4 151 rfl rfl), (gwt_0 50 rfl rfl)⟩
set_option maxRecDepth 100000 in
theorem m_X3_writeAnd : mok yX3_writeAnd cX3_writeAnd 6 none 2 := ⟨(gwt_1 6 rfl rfl), (gwt_4 156 rfl rfl), ⟨nh_X3.1, nh_X3.2, pd_13⟩, by decide⟩
set_option maxRecDepth 100000 in
theorem i_X3_writeAnd : iok yX3_writeAnd := ⟨(gwt_4 155 rfl rfl), (gwt_0 51 rfl rfl)⟩
set_option maxRecDepth 100000 in
theorem m_X3_shorten : mok yX3_shorten cX3_shorten 1 none 0 := ⟨(gwt_1 6 rfl rfl), (gwt_4 160 rfl rfl), ⟨nh_X3.1, nh_X3.2, pd_11⟩, by decide⟩
set_option maxRecDepth 100000 in
theorem i_X3_shorten : iok yX3_shorten := ⟨(gwt_4 159 rfl rfl), (gwt_0 52 rfl rfl)⟩
set_option maxRecDepth 100000 in
theorem m_X3_followJumps : mok yX3_followJumps cX3_followJumps 4 none 0 := ⟨(gwt_1 6 rfl rfl), (gwt_4 164 rfl rfl), ⟨nh_X3.1, nh_X3.2, pd_11⟩, by decide⟩
set_option maxRecDepth 100000 in
theorem i_X3_followJumps : iok yX3_followJumps := ⟨(gwt_4 163 rfl rfl), (gwt_0 53 rfl rfl)⟩
set_option maxRecDepth 100000 in
theorem m_X3_replaceJumps : mok yX3_replaceJumps cX3_replaceJumps 3 none 0 := ⟨(gwt_1 6 rfl rfl), (gwt_4 168 rfl rfl), ⟨nh_X3.1, nh_X3.2, pd_11⟩, by decide⟩
set_option maxRecDepth 100000 in
theorem i_X3_replaceJumps : iok yX3_replaceJumps := ⟨(gwt_4 167 rfl rfl), (gwt_0 54 rfl rfl)⟩
set_option maxRecDepth 100000 in
theorem m_X3_replaceCalls : mok yX3_replaceCalls cX3_replaceCalls 2 none 0 := ⟨(gwt_1 6 rfl rfl), (gwt_4 172 rfl rfl), ⟨nh_X3.1, nh_X3.2, pd_11⟩, by decide⟩
set_option maxRecDepth 100000 in
theorem i_X3_replaceCalls : iok yX3_replaceCalls := ⟨(gwt_4 171 rfl rfl), (gwt_0 55 rfl rfl)⟩
set_option maxRecDepth 100000 in
theorem m_X3_numberSets : mok yX3_numberSets cX3_numberSets 2 (some .boolean) 0 := ⟨(gwt_1 6 rfl rfl), (gwt_4 176 rfl rfl), ⟨nh_X3.1, nh_X3.2, pd_23⟩, by decide⟩
set_option maxRecDepth 100000 in
theorem i_X3_numberSets : iok yX3_numberSets := ⟨(gwt_4 175 rfl rfl), (gwt_0 56 rfl rfl)⟩
set_option maxRecDepth 100000 in
theorem m_X8_usesSet : mok yX8_usesSet cX8_usesSet 2 (some .boolean) 1 := ⟨(gwt_1 5 rfl rfl), (gwt_4 180 rfl rfl), ⟨nh_X8.1, nh_X8.2, pd_10⟩, by decide⟩
set_option maxRecDepth 100000 in
theorem i_X8_usesSet : iok yX8_usesSet := ⟨(gwt_4 178 rfl rfl), (gwt_4 179 rfl rfl)⟩
set_option maxRecDepth 100000 in
theorem m_X3_setNumber : mok yX3_setNumber cX3_setNumber 3 (some .int) 1 := ⟨(gwt_1 6 rfl rfl), (gwt_4 184 rfl rfl), ⟨nh_X3.1, nh_X3.2, pd_2⟩, by decide⟩
set_option maxRecDepth 100000 in
theorem i_X3_setNumber : iok yX3_setNumber := ⟨(gwt_4 183 rfl rfl), (gwt_0 57 rfl rfl)⟩
set_option maxRecDepth 100000 in
theorem m_X3_isSet : mok yX3_isSet cX3_isSet 4 (some .boolean) 2 := ⟨(gwt_1 6 rfl rfl), (gwt_4 188 rfl rfl), ⟨nh_X3.1, nh_X3.2, pd_17⟩, by decide⟩
set_option maxRecDepth 100000 in
theorem i_X3_isSet : iok yX3_isSet := ⟨(gwt_4 187 rfl rfl), (gwt_0 58 rfl rfl)⟩
set_option maxRecDepth 100000 in
theorem m_X1_makeCode : mok yX1_makeCode cX1_makeCode 4 (some .boolean) 1 := ⟨(gwt_1 7 rfl rfl), (gwt_4 192 rfl rfl), ⟨nh_X1.1, nh_X1.2, pd_25⟩, by decide⟩
set_option maxRecDepth 100000 in
theorem i_X1_makeCode : iok yX1_makeCode := ⟨(gwt_4 190 rfl rfl), (gwt_4 191 rfl rfl)⟩
set_option maxRecDepth 100000 in
theorem m_X1_markAligned : mok yX1_markAligned cX1_markAligned 2 none 0 := ⟨(gwt_1 7 rfl rfl), (gwt_4 196 rfl rfl), ⟨nh_X1.1, nh_X1.2, pd_11⟩, by decide⟩
set_option maxRecDepth 100000 in
theorem i_X1_markAligned : iok yX1_markAligned := ⟨(gwt_4 195 rfl rfl), (gwt_0 59 rfl rfl)⟩
set_option maxRecDepth 100000 in
theorem m_J7_fill_031fb : mok yJ7_fill_031fb cJ7_fill_031fb 4 none 2 := ⟨(gwt_1 19 rfl rfl), (gwt_4 199 rfl rfl), ⟨nh_J7.1, nh_J7.2, pd_3⟩, by decide⟩
set_option maxRecDepth 100000 in
theorem s_J7_fill_031fb : Cond.static yJ7_fill_031fb ∈ gw := (gwt_4 198 rfl rfl)
set_option maxRecDepth 100000 in
theorem m_X1_layAll : mok yX1_layAll cX1_layAll 3 none 1 := ⟨(gwt_1 7 rfl rfl), (gwt_4 203 rfl rfl), ⟨nh_X1.1, nh_X1.2, pd_14⟩, by decide⟩
set_option maxRecDepth 100000 in
theorem i_X1_layAll : iok yX1_layAll := ⟨(gwt_4 202 rfl rfl), (gwt_0 60 rfl rfl)⟩
set_option maxRecDepth 100000 in
theorem m_X1_keepRoom : mok yX1_keepRoom cX1_keepRoom 3 none 1 := ⟨(gwt_1 7 rfl rfl), (gwt_4 207 rfl rfl), ⟨nh_X1.1, nh_X1.2, pd_18⟩, by decide⟩
set_option maxRecDepth 100000 in
theorem i_X1_keepRoom : iok yX1_keepRoom := ⟨(gwt_4 206 rfl rfl), (gwt_0 61 rfl rfl)⟩
set_option maxRecDepth 100000 in
theorem m_X1_layByte : mok yX1_layByte cX1_layByte 2 none 1 := ⟨(gwt_1 7 rfl rfl), (gwt_4 211 rfl rfl), ⟨nh_X1.1, nh_X1.2, pd_18⟩, by decide⟩
set_option maxRecDepth 100000 in
theorem i_X1_layByte : iok yX1_layByte := ⟨(gwt_4 210 rfl rfl), (gwt_0 62 rfl rfl)⟩
set_option maxRecDepth 100000 in
theorem m_X1_layTaking : mok yX1_layTaking cX1_layTaking 6 none 1 := ⟨(gwt_1 7 rfl rfl), (gwt_4 215 rfl rfl), ⟨nh_X1.1, nh_X1.2, pd_18⟩, by decide⟩
set_option maxRecDepth 100000 in
theorem i_X1_layTaking : iok yX1_layTaking := ⟨(gwt_4 214 rfl rfl), (gwt_0 63 rfl rfl)⟩
set_option maxRecDepth 100000 in
theorem m_X1_layLimit : mok yX1_layLimit cX1_layLimit 1 none 0 := ⟨(gwt_1 7 rfl rfl), (gwt_4 219 rfl rfl), ⟨nh_X1.1, nh_X1.2, pd_11⟩, by decide⟩
set_option maxRecDepth 100000 in
theorem i_X1_layLimit : iok yX1_layLimit := ⟨(gwt_4 218 rfl rfl), (gwt_0 64 rfl rfl)⟩
set_option maxRecDepth 100000 in
theorem m_X1_second : mok yX1_second cX1_second 3 (some .int) 3 := ⟨(gwt_1 7 rfl rfl), (gwt_4 222 rfl rfl), ⟨nh_X1.1, nh_X1.2, pd_9⟩, by decide⟩
set_option maxRecDepth 100000 in
theorem s_X1_second : Cond.static yX1_second ∈ gw := (gwt_4 221 rfl rfl)
set_option maxRecDepth 100000 in
theorem m_X1_layWord : mok yX1_layWord cX1_layWord 3 none 1 := ⟨(gwt_1 7 rfl rfl), (gwt_4 227 rfl rfl), ⟨nh_X1.1, nh_X1.2, pd_18⟩, by decide⟩
set_option maxRecDepth 100000 in
theorem i_X1_layWord : iok yX1_layWord := ⟨(gwt_4 226 rfl rfl), (gwt_0 65 rfl rfl)⟩
set_option maxRecDepth 100000 in
theorem m_X1_layJump : mok yX1_layJump cX1_layJump 7 none 2 := ⟨(gwt_1 7 rfl rfl), (gwt_4 231 rfl rfl), ⟨nh_X1.1, nh_X1.2, pd_13⟩, by decide⟩
set_option maxRecDepth 100000 in
theorem i_X1_layJump : iok yX1_layJump := ⟨(gwt_4 230 rfl rfl), (gwt_0 66 rfl rfl)⟩
set_option maxRecDepth 100000 in
theorem m_X1_layNext : mok yX1_layNext cX1_layNext 1 none 0 := ⟨(gwt_1 7 rfl rfl), (gwt_4 235 rfl rfl), ⟨nh_X1.1, nh_X1.2, pd_11⟩, by decide⟩
set_option maxRecDepth 100000 in
theorem i_X1_layNext : iok yX1_layNext := ⟨(gwt_4 234 rfl rfl), (gwt_0 67 rfl rfl)⟩
set_option maxRecDepth 100000 in
theorem m_X1_layCopy : mok yX1_layCopy cX1_layCopy 3 none 2 := ⟨(gwt_1 7 rfl rfl), (gwt_4 239 rfl rfl), ⟨nh_X1.1, nh_X1.2, pd_13⟩, by decide⟩
set_option maxRecDepth 100000 in
theorem i_X1_layCopy : iok yX1_layCopy := ⟨(gwt_4 238 rfl rfl), (gwt_0 68 rfl rfl)⟩
set_option maxRecDepth 100000 in
theorem m_X1_layNumber : mok yX1_layNumber cX1_layNumber 4 none 3 := ⟨(gwt_1 7 rfl rfl), (gwt_5 4 rfl rfl), ⟨nh_X1.1, nh_X1.2, pd_6⟩, by decide⟩
set_option maxRecDepth 100000 in
theorem i_X1_layNumber : iok yX1_layNumber := ⟨(gwt_5 3 rfl rfl), (gwt_0 69 rfl rfl)⟩
set_option maxRecDepth 100000 in
theorem m_X1_layIn : mok yX1_layIn cX1_layIn 2 none 1 := ⟨(gwt_1 7 rfl rfl), (gwt_5 10 rfl rfl), ⟨nh_X1.1, nh_X1.2, pd_18⟩, by decide⟩
set_option maxRecDepth 100000 in
theorem i_X1_layIn : iok yX1_layIn := ⟨(gwt_5 9 rfl rfl), (gwt_0 70 rfl rfl)⟩
set_option maxRecDepth 100000 in
theorem m_X1_layMemory : mok yX1_layMemory cX1_layMemory 4 none 3 := ⟨(gwt_1 7 rfl rfl), (gwt_5 15 rfl rfl), ⟨nh_X1.1, nh_X1.2, pd_6⟩, by decide⟩
set_option maxRecDepth 100000 in
theorem i_X1_layMemory : iok yX1_layMemory := ⟨(gwt_5 14 rfl rfl), (gwt_0 71 rfl rfl)⟩
set_option maxRecDepth 100000 in
theorem m_X1_layOne : mok yX1_layOne cX1_layOne 2 none 1 := ⟨(gwt_1 7 rfl rfl), (gwt_5 19 rfl rfl), ⟨nh_X1.1, nh_X1.2, pd_18⟩, by decide⟩
set_option maxRecDepth 100000 in
theorem i_X1_layOne : iok yX1_layOne := ⟨(gwt_5 18 rfl rfl), (gwt_0 72 rfl rfl)⟩
set_option maxRecDepth 100000 in
theorem m_X1_layControl : mok yX1_layControl cX1_layControl 3 none 1 := ⟨(gwt_1 7 rfl rfl), (gwt_5 23 rfl rfl), ⟨nh_X1.1, nh_X1.2, pd_18⟩, by decide⟩
set_option maxRecDepth 100000 in
theorem i_X1_layControl : iok yX1_layControl := ⟨(gwt_5 22 rfl rfl), (gwt_0 73 rfl rfl)⟩
set_option maxRecDepth 100000 in
theorem m_X1_layChoice : mok yX1_layChoice cX1_layChoice 2 none 1 := ⟨(gwt_1 7 rfl rfl), (gwt_5 27 rfl rfl), ⟨nh_X1.1, nh_X1.2, pd_18⟩, by decide⟩
set_option maxRecDepth 100000 in
theorem i_X1_layChoice : iok yX1_layChoice := ⟨(gwt_5 26 rfl rfl), (gwt_0 74 rfl rfl)⟩
set_option maxRecDepth 100000 in
theorem m_X1_layLoadNumber : mok yX1_layLoadNumber cX1_layLoadNumber 3 none 2 := ⟨(gwt_1 7 rfl rfl), (gwt_5 31 rfl rfl), ⟨nh_X1.1, nh_X1.2, pd_13⟩, by decide⟩
set_option maxRecDepth 100000 in
theorem i_X1_layLoadNumber : iok yX1_layLoadNumber := ⟨(gwt_5 30 rfl rfl), (gwt_0 75 rfl rfl)⟩
set_option maxRecDepth 100000 in
theorem m_X1_layEntry : mok yX1_layEntry cX1_layEntry 1 none 0 := ⟨(gwt_1 7 rfl rfl), (gwt_5 36 rfl rfl), ⟨nh_X1.1, nh_X1.2, pd_11⟩, by decide⟩
set_option maxRecDepth 100000 in
theorem i_X1_layEntry : iok yX1_layEntry := ⟨(gwt_5 35 rfl rfl), (gwt_0 76 rfl rfl)⟩
set_option maxRecDepth 100000 in
theorem m_X1_layCall : mok yX1_layCall cX1_layCall 2 none 1 := ⟨(gwt_1 7 rfl rfl), (gwt_5 40 rfl rfl), ⟨nh_X1.1, nh_X1.2, pd_18⟩, by decide⟩
set_option maxRecDepth 100000 in
theorem i_X1_layCall : iok yX1_layCall := ⟨(gwt_5 39 rfl rfl), (gwt_0 77 rfl rfl)⟩
set_option maxRecDepth 100000 in
theorem m_X1_layPartial : mok yX1_layPartial cX1_layPartial 1 none 0 := ⟨(gwt_1 7 rfl rfl), (gwt_5 44 rfl rfl), ⟨nh_X1.1, nh_X1.2, pd_11⟩, by decide⟩
set_option maxRecDepth 100000 in
theorem i_X1_layPartial : iok yX1_layPartial := ⟨(gwt_5 43 rfl rfl), (gwt_0 78 rfl rfl)⟩
set_option maxRecDepth 100000 in
theorem m_X1_layBackCommit : mok yX1_layBackCommit cX1_layBackCommit 1 none 0 := ⟨(gwt_1 7 rfl rfl), (gwt_5 48 rfl rfl), ⟨nh_X1.1, nh_X1.2, pd_11⟩, by decide⟩
set_option maxRecDepth 100000 in
theorem i_X1_layBackCommit : iok yX1_layBackCommit := ⟨(gwt_5 47 rfl rfl), (gwt_0 79 rfl rfl)⟩
set_option maxRecDepth 100000 in
theorem m_X1_layReturn : mok yX1_layReturn cX1_layReturn 1 none 0 := ⟨(gwt_1 7 rfl rfl), (gwt_5 52 rfl rfl), ⟨nh_X1.1, nh_X1.2, pd_11⟩, by decide⟩
set_option maxRecDepth 100000 in
theorem i_X1_layReturn : iok yX1_layReturn := ⟨(gwt_5 51 rfl rfl), (gwt_0 80 rfl rfl)⟩
set_option maxRecDepth 100000 in
theorem m_X1_layGo : mok yX1_layGo cX1_layGo 1 none 0 := ⟨(gwt_1 7 rfl rfl), (gwt_5 56 rfl rfl), ⟨nh_X1.1, nh_X1.2, pd_11⟩, by decide⟩
set_option maxRecDepth 100000 in
theorem i_X1_layGo : iok yX1_layGo := ⟨(gwt_5 55 rfl rfl), (gwt_0 81 rfl rfl)⟩
set_option maxRecDepth 100000 in
theorem m_X1_layEvent : mok yX1_layEvent cX1_layEvent 2 none 1 := ⟨(gwt_1 7 rfl rfl), (gwt_5 62 rfl rfl), ⟨nh_X1.1, nh_X1.2, pd_18⟩, by decide⟩
set_option maxRecDepth 100000 in
theorem i_X1_layEvent : iok yX1_layEvent := ⟨(gwt_5 61 rfl rfl), (gwt_0 82 rfl rfl)⟩
set_option maxRecDepth 100000 in
theorem m_X1_layLeap : mok yX1_layLeap cX1_layLeap 3 none 2 := ⟨(gwt_1 7 rfl rfl), (gwt_5 67 rfl rfl), ⟨nh_X1.1, nh_X1.2, pd_13⟩, by decide⟩
set_option maxRecDepth 100000 in
theorem i_X1_layLeap : iok yX1_layLeap := ⟨(gwt_5 66 rfl rfl), (gwt_0 83 rfl rfl)⟩
set_option maxRecDepth 100000 in
theorem m_X1_layFail : mok yX1_layFail cX1_layFail 1 none 0 := ⟨(gwt_1 7 rfl rfl), (gwt_5 71 rfl rfl), ⟨nh_X1.1, nh_X1.2, pd_11⟩, by decide⟩
set_option maxRecDepth 100000 in
theorem i_X1_layFail : iok yX1_layFail := ⟨(gwt_5 70 rfl rfl), (gwt_0 84 rfl rfl)⟩
set_option maxRecDepth 100000 in
theorem m_X1_layEnd : mok yX1_layEnd cX1_layEnd 2 none 1 := ⟨(gwt_1 7 rfl rfl), (gwt_5 75 rfl rfl), ⟨nh_X1.1, nh_X1.2, pd_18⟩, by decide⟩
set_option maxRecDepth 100000 in
theorem i_X1_layEnd : iok yX1_layEnd := ⟨(gwt_5 74 rfl rfl), (gwt_0 85 rfl rfl)⟩
set_option maxRecDepth 100000 in
theorem m_X1_widenJumps : mok yX1_widenJumps cX1_widenJumps 4 (some .boolean) 0 := ⟨(gwt_1 7 rfl rfl), (gwt_5 79 rfl rfl), ⟨nh_X1.1, nh_X1.2, pd_23⟩, by decide⟩
set_option maxRecDepth 100000 in
theorem i_X1_widenJumps : iok yX1_widenJumps := ⟨(gwt_5 78 rfl rfl), (gwt_0 86 rfl rfl)⟩
set_option maxRecDepth 100000 in
theorem m_X11_fault : mok yX11_fault cX11_fault 2 (some .int) 1 := ⟨(gwt_1 1 rfl rfl), (gwt_5 83 rfl rfl), ⟨nh_X11.1, nh_X11.2, pd_2⟩, by decide⟩
set_option maxRecDepth 100000 in
theorem i_X11_fault : iok yX11_fault := ⟨(gwt_5 81 rfl rfl), (gwt_5 82 rfl rfl)⟩
set_option maxRecDepth 100000 in
theorem m_X11_count : mok yX11_count cX11_count 2 (some .int) 1 := ⟨(gwt_1 1 rfl rfl), (gwt_5 87 rfl rfl), ⟨nh_X11.1, nh_X11.2, pd_2⟩, by decide⟩
set_option maxRecDepth 100000 in
theorem i_X11_count : iok yX11_count := ⟨(gwt_5 85 rfl rfl), (gwt_5 86 rfl rfl)⟩
set_option maxRecDepth 100000 in
theorem m_X11_rule : mok yX11_rule cX11_rule 3 (some .int) 2 := ⟨(gwt_1 1 rfl rfl), (gwt_5 91 rfl rfl), ⟨nh_X11.1, nh_X11.2, pd_7⟩, by decide⟩
set_option maxRecDepth 100000 in
theorem i_X11_rule : iok yX11_rule := ⟨(gwt_5 89 rfl rfl), (gwt_5 90 rfl rfl)⟩
set_option maxRecDepth 100000 in
theorem m_X11_program : mok yX11_program cX11_program 3 (some .int) 2 := ⟨(gwt_1 1 rfl rfl), (gwt_5 95 rfl rfl), ⟨nh_X11.1, nh_X11.2, pd_7⟩, by decide⟩
set_option maxRecDepth 100000 in
theorem i_X11_program : iok yX11_program := ⟨(gwt_5 93 rfl rfl), (gwt_5 94 rfl rfl)⟩
set_option maxRecDepth 100000 in
theorem m_X11_set : mok yX11_set cX11_set 3 (some .int) 2 := ⟨(gwt_1 1 rfl rfl), (gwt_5 99 rfl rfl), ⟨nh_X11.1, nh_X11.2, pd_7⟩, by decide⟩
set_option maxRecDepth 100000 in
theorem i_X11_set : iok yX11_set := ⟨(gwt_5 97 rfl rfl), (gwt_5 98 rfl rfl)⟩
set_option maxRecDepth 100000 in
theorem m_X11_image : mok yX11_image cX11_image 2 (some .int) 1 := ⟨(gwt_1 1 rfl rfl), (gwt_5 103 rfl rfl), ⟨nh_X11.1, nh_X11.2, pd_2⟩, by decide⟩
set_option maxRecDepth 100000 in
theorem i_X11_image : iok yX11_image := ⟨(gwt_5 101 rfl rfl), (gwt_5 102 rfl rfl)⟩
set_option maxRecDepth 100000 in
theorem m_X11_subject : mok yX11_subject cX11_subject 1 (some .int) 0 := ⟨(gwt_1 1 rfl rfl), (gwt_5 107 rfl rfl), ⟨nh_X11.1, nh_X11.2, pd_20⟩, by decide⟩
set_option maxRecDepth 100000 in
theorem i_X11_subject : iok yX11_subject := ⟨(gwt_5 105 rfl rfl), (gwt_5 106 rfl rfl)⟩
set_option maxRecDepth 100000 in
theorem m_X11_arm : mok yX11_arm cX11_arm 4 (some .boolean) 2 := ⟨(gwt_1 1 rfl rfl), (gwt_5 112 rfl rfl), ⟨nh_X11.1, nh_X11.2, pd_17⟩, by decide⟩
set_option maxRecDepth 100000 in
theorem i_X11_arm : iok yX11_arm := ⟨(gwt_5 110 rfl rfl), (gwt_5 111 rfl rfl)⟩
set_option maxRecDepth 100000 in
theorem m_X7_takeCode : mok yX7_takeCode cX7_takeCode 4 none 2 := ⟨(gwt_1 8 rfl rfl), (gwt_5 116 rfl rfl), ⟨nh_X7.1, nh_X7.2, pd_27⟩, by decide⟩
set_option maxRecDepth 100000 in
theorem i_X7_takeCode : iok yX7_takeCode := ⟨(gwt_5 114 rfl rfl), (gwt_5 115 rfl rfl)⟩
set_option maxRecDepth 100000 in
theorem m_X7_clearData : mok yX7_clearData cX7_clearData 1 none 0 := ⟨(gwt_1 8 rfl rfl), (gwt_5 122 rfl rfl), ⟨nh_X7.1, nh_X7.2, pd_11⟩, by decide⟩
set_option maxRecDepth 100000 in
theorem i_X7_clearData : iok yX7_clearData := ⟨(gwt_5 120 rfl rfl), (gwt_5 121 rfl rfl)⟩
set_option maxRecDepth 100000 in
theorem m_X7_fillData : mok yX7_fillData cX7_fillData 3 none 2 := ⟨(gwt_1 8 rfl rfl), (gwt_5 127 rfl rfl), ⟨nh_X7.1, nh_X7.2, pd_27⟩, by decide⟩
set_option maxRecDepth 100000 in
theorem i_X7_fillData : iok yX7_fillData := ⟨(gwt_5 125 rfl rfl), (gwt_5 126 rfl rfl)⟩
set_option maxRecDepth 100000 in
theorem m_X7_writeWord : mok yX7_writeWord cX7_writeWord 3 none 2 := ⟨(gwt_1 8 rfl rfl), (gwt_5 131 rfl rfl), ⟨nh_X7.1, nh_X7.2, pd_13⟩, by decide⟩
set_option maxRecDepth 100000 in
theorem i_X7_writeWord : iok yX7_writeWord := ⟨(gwt_5 129 rfl rfl), (gwt_5 130 rfl rfl)⟩
set_option maxRecDepth 100000 in
theorem m_X7_fillSets : mok yX7_fillSets cX7_fillSets 4 none 2 := ⟨(gwt_1 8 rfl rfl), (gwt_5 135 rfl rfl), ⟨nh_X7.1, nh_X7.2, pd_4⟩, by decide⟩
set_option maxRecDepth 100000 in
theorem i_X7_fillSets : iok yX7_fillSets := ⟨(gwt_5 133 rfl rfl), (gwt_5 134 rfl rfl)⟩
set_option maxRecDepth 100000 in
theorem m_X7_prepare : mok yX7_prepare cX7_prepare 3 none 2 := ⟨(gwt_1 8 rfl rfl), (gwt_5 139 rfl rfl), ⟨nh_X7.1, nh_X7.2, pd_13⟩, by decide⟩
set_option maxRecDepth 100000 in
theorem i_X7_prepare : iok yX7_prepare := ⟨(gwt_5 137 rfl rfl), (gwt_5 138 rfl rfl)⟩
set_option maxRecDepth 100000 in
theorem m_J7_fill_53178 : mok yJ7_fill_53178 cJ7_fill_53178 4 none 2 := ⟨(gwt_1 19 rfl rfl), (gwt_5 142 rfl rfl), ⟨nh_J7.1, nh_J7.2, pd_4⟩, by decide⟩
set_option maxRecDepth 100000 in
theorem s_J7_fill_53178 : Cond.static yJ7_fill_53178 ∈ gw := (gwt_5 141 rfl rfl)
set_option maxRecDepth 100000 in
theorem m_X7_goTo : mok yX7_goTo cX7_goTo 2 none 1 := ⟨(gwt_1 8 rfl rfl), (gwt_5 146 rfl rfl), ⟨nh_X7.1, nh_X7.2, pd_18⟩, by decide⟩
set_option maxRecDepth 100000 in
theorem i_X7_goTo : iok yX7_goTo := ⟨(gwt_5 144 rfl rfl), (gwt_5 145 rfl rfl)⟩
set_option maxRecDepth 100000 in
theorem m_X2_forget : mok yX2_forget cX2_forget 1 none 0 := ⟨(gwt_1 11 rfl rfl), (gwt_5 150 rfl rfl), ⟨nh_X2.1, nh_X2.2, pd_11⟩, by decide⟩
set_option maxRecDepth 100000 in
theorem i_X2_forget : iok yX2_forget := ⟨(gwt_5 148 rfl rfl), (gwt_5 149 rfl rfl)⟩
set_option maxRecDepth 100000 in
theorem m_X11_match : mok yX11_match cX11_match 3 (some .int) 2 := ⟨(gwt_1 1 rfl rfl), (gwt_5 154 rfl rfl), ⟨nh_X11.1, nh_X11.2, pd_7⟩, by decide⟩
set_option maxRecDepth 100000 in
theorem i_X11_match : iok yX11_match := ⟨(gwt_5 152 rfl rfl), (gwt_5 153 rfl rfl)⟩
set_option maxRecDepth 100000 in
theorem m_X7_makeSteps : mok yX7_makeSteps cX7_makeSteps 3 (some .int) 1 := ⟨(gwt_1 8 rfl rfl), (gwt_5 160 rfl rfl), ⟨nh_X7.1, nh_X7.2, pd_2⟩, by decide⟩
set_option maxRecDepth 100000 in
theorem i_X7_makeSteps : iok yX7_makeSteps := ⟨(gwt_5 158 rfl rfl), (gwt_5 159 rfl rfl)⟩
set_option maxRecDepth 100000 in
theorem m_X7_tryStep : mok yX7_tryStep cX7_tryStep 3 (some .boolean) 0 := ⟨(gwt_1 8 rfl rfl), (gwt_5 164 rfl rfl), ⟨nh_X7.1, nh_X7.2, pd_23⟩, by decide⟩
set_option maxRecDepth 100000 in
theorem i_X7_tryStep : iok yX7_tryStep := ⟨(gwt_5 163 rfl rfl), (gwt_0 87 rfl rfl)⟩
set_option maxRecDepth 100000 in
theorem m_X4_decode : mok yX4_decode cX4_decode 4 none 3 := ⟨(gwt_1 10 rfl rfl), (gwt_5 168 rfl rfl), ⟨nh_X4.1, nh_X4.2, pd_31⟩, by decide⟩
set_option maxRecDepth 100000 in
theorem i_X4_decode : iok yX4_decode := ⟨(gwt_5 166 rfl rfl), (gwt_5 167 rfl rfl)⟩
set_option maxRecDepth 100000 in
theorem m_X4_nextByte : mok yX4_nextByte cX4_nextByte 2 (some .int) 0 := ⟨(gwt_1 10 rfl rfl), (gwt_5 173 rfl rfl), ⟨nh_X4.1, nh_X4.2, pd_20⟩, by decide⟩
set_option maxRecDepth 100000 in
theorem i_X4_nextByte : iok yX4_nextByte := ⟨(gwt_5 172 rfl rfl), (gwt_0 88 rfl rfl)⟩
set_option maxRecDepth 100000 in
theorem m_X4_decodeTwo : mok yX4_decodeTwo cX4_decodeTwo 3 none 1 := ⟨(gwt_1 10 rfl rfl), (gwt_5 177 rfl rfl), ⟨nh_X4.1, nh_X4.2, pd_18⟩, by decide⟩
set_option maxRecDepth 100000 in
theorem i_X4_decodeTwo : iok yX4_decodeTwo := ⟨(gwt_5 176 rfl rfl), (gwt_0 89 rfl rfl)⟩
set_option maxRecDepth 100000 in
theorem m_X4_decodeM : mok yX4_decodeM cX4_decodeM 3 none 1 := ⟨(gwt_1 10 rfl rfl), (gwt_5 181 rfl rfl), ⟨nh_X4.1, nh_X4.2, pd_18⟩, by decide⟩
set_option maxRecDepth 100000 in
theorem i_X4_decodeM : iok yX4_decodeM := ⟨(gwt_5 180 rfl rfl), (gwt_0 90 rfl rfl)⟩
set_option maxRecDepth 100000 in
theorem m_X4_decodeThird : mok yX4_decodeThird cX4_decodeThird 2 none 0 := ⟨(gwt_1 10 rfl rfl), (gwt_5 185 rfl rfl), ⟨nh_X4.1, nh_X4.2, pd_11⟩, by decide⟩
set_option maxRecDepth 100000 in
theorem i_X4_decodeThird : iok yX4_decodeThird := ⟨(gwt_5 184 rfl rfl), (gwt_0 91 rfl rfl)⟩
set_option maxRecDepth 100000 in
theorem m_X4_nextWord : mok yX4_nextWord cX4_nextWord 5 (some .int) 0 := ⟨(gwt_1 10 rfl rfl), (gwt_5 189 rfl rfl), ⟨nh_X4.1, nh_X4.2, pd_20⟩, by decide⟩
set_option maxRecDepth 100000 in
theorem i_X4_nextWord : iok yX4_nextWord := ⟨(gwt_5 188 rfl rfl), (gwt_0 92 rfl rfl)⟩
set_option maxRecDepth 100000 in
theorem m_X4_refuseIf : mok yX4_refuseIf cX4_refuseIf 2 none 1 := ⟨(gwt_1 10 rfl rfl), (gwt_5 193 rfl rfl), ⟨nh_X4.1, nh_X4.2, pd_14⟩, by decide⟩
set_option maxRecDepth 100000 in
theorem i_X4_refuseIf : iok yX4_refuseIf := ⟨(gwt_5 192 rfl rfl), (gwt_0 93 rfl rfl)⟩
set_option maxRecDepth 100000 in
theorem m_X4_decodeArithmetic : mok yX4_decodeArithmetic cX4_decodeArithmetic 2 none 0 := ⟨(gwt_1 10 rfl rfl), (gwt_5 197 rfl rfl), ⟨nh_X4.1, nh_X4.2, pd_11⟩, by decide⟩
set_option maxRecDepth 100000 in
theorem i_X4_decodeArithmetic : iok yX4_decodeArithmetic := ⟨(gwt_5 196 rfl rfl), (gwt_0 94 rfl rfl)⟩
set_option maxRecDepth 100000 in
theorem m_X4_decodeMoves : mok yX4_decodeMoves cX4_decodeMoves 1 none 0 := ⟨(gwt_1 10 rfl rfl), (gwt_5 201 rfl rfl), ⟨nh_X4.1, nh_X4.2, pd_11⟩, by decide⟩
set_option maxRecDepth 100000 in
theorem i_X4_decodeMoves : iok yX4_decodeMoves := ⟨(gwt_5 200 rfl rfl), (gwt_0 95 rfl rfl)⟩
set_option maxRecDepth 100000 in
theorem m_X4_decodeOthers : mok yX4_decodeOthers cX4_decodeOthers 1 none 0 := ⟨(gwt_1 10 rfl rfl), (gwt_5 205 rfl rfl), ⟨nh_X4.1, nh_X4.2, pd_11⟩, by decide⟩
set_option maxRecDepth 100000 in
theorem i_X4_decodeOthers : iok yX4_decodeOthers := ⟨(gwt_5 204 rfl rfl), (gwt_0 96 rfl rfl)⟩
set_option maxRecDepth 100000 in
theorem m_X4_unaryKind : mok yX4_unaryKind cX4_unaryKind 1 (some .int) 1 := ⟨(gwt_1 10 rfl rfl), (gwt_5 208 rfl rfl), ⟨nh_X4.1, nh_X4.2, pd_2⟩, by decide⟩
set_option maxRecDepth 100000 in
theorem s_X4_unaryKind : Cond.static yX4_unaryKind ∈ gw := (gwt_5 207 rfl rfl)
set_option maxRecDepth 100000 in
theorem m_X4_lastKind : mok yX4_lastKind cX4_lastKind 1 (some .int) 1 := ⟨(gwt_1 10 rfl rfl), (gwt_5 211 rfl rfl), ⟨nh_X4.1, nh_X4.2, pd_2⟩, by decide⟩
set_option maxRecDepth 100000 in
theorem s_X4_lastKind : Cond.static yX4_lastKind ∈ gw := (gwt_5 210 rfl rfl)
set_option maxRecDepth 100000 in
theorem m_X7_findAddress : mok yX7_findAddress cX7_findAddress 1 (some .boolean) 0 := ⟨(gwt_1 8 rfl rfl), (gwt_5 215 rfl rfl), ⟨nh_X7.1, nh_X7.2, pd_23⟩, by decide⟩
set_option maxRecDepth 100000 in
theorem i_X7_findAddress : iok yX7_findAddress := ⟨(gwt_5 214 rfl rfl), (gwt_0 97 rfl rfl)⟩
set_option maxRecDepth 100000 in
theorem m_X7_sumOfM : mok yX7_sumOfM cX7_sumOfM 2 (some .int) 0 := ⟨(gwt_1 8 rfl rfl), (gwt_5 219 rfl rfl), ⟨nh_X7.1, nh_X7.2, pd_20⟩, by decide⟩
set_option maxRecDepth 100000 in
theorem i_X7_sumOfM : iok yX7_sumOfM := ⟨(gwt_5 218 rfl rfl), (gwt_0 98 rfl rfl)⟩
set_option maxRecDepth 100000 in
theorem m_X7_calculate : mok yX7_calculate cX7_calculate 6 none 1 := ⟨(gwt_1 8 rfl rfl), (gwt_5 224 rfl rfl), ⟨nh_X7.1, nh_X7.2, pd_18⟩, by decide⟩
set_option maxRecDepth 100000 in
theorem i_X7_calculate : iok yX7_calculate := ⟨(gwt_5 223 rfl rfl), (gwt_0 99 rfl rfl)⟩
set_option maxRecDepth 100000 in
theorem m_X7_readM : mok yX7_readM cX7_readM 1 (some .int) 0 := ⟨(gwt_1 8 rfl rfl), (gwt_5 228 rfl rfl), ⟨nh_X7.1, nh_X7.2, pd_20⟩, by decide⟩
set_option maxRecDepth 100000 in
theorem i_X7_readM : iok yX7_readM := ⟨(gwt_5 227 rfl rfl), (gwt_0 100 rfl rfl)⟩
set_option maxRecDepth 100000 in
theorem m_X7_readByteRegister : mok yX7_readByteRegister cX7_readByteRegister 2 (some .int) 1 := ⟨(gwt_1 8 rfl rfl), (gwt_5 232 rfl rfl), ⟨nh_X7.1, nh_X7.2, pd_2⟩, by decide⟩
set_option maxRecDepth 100000 in
theorem i_X7_readByteRegister : iok yX7_readByteRegister := ⟨(gwt_5 231 rfl rfl), (gwt_0 101 rfl rfl)⟩
set_option maxRecDepth 100000 in
theorem m_X7_readWord : mok yX7_readWord cX7_readWord 2 (some .int) 1 := ⟨(gwt_1 8 rfl rfl), (gwt_5 236 rfl rfl), ⟨nh_X7.1, nh_X7.2, pd_2⟩, by decide⟩
set_option maxRecDepth 100000 in
theorem i_X7_readWord : iok yX7_readWord := ⟨(gwt_5 234 rfl rfl), (gwt_5 235 rfl rfl)⟩
set_option maxRecDepth 100000 in
theorem m_X0_arithmetic : mok yX0_arithmetic cX0_arithmetic 4 (some .int) 3 := ⟨(gwt_1 9 rfl rfl), (gwt_6 0 rfl rfl), ⟨nh_X0.1, nh_X0.2, pd_9⟩, by decide⟩
set_option maxRecDepth 100000 in
theorem i_X0_arithmetic : iok yX0_arithmetic := ⟨(gwt_5 238 rfl rfl), (gwt_5 239 rfl rfl)⟩
set_option maxRecDepth 100000 in
theorem m_X0_sum : mok yX0_sum cX0_sum 10 (some .int) 3 := ⟨(gwt_1 9 rfl rfl), (gwt_6 4 rfl rfl), ⟨nh_X0.1, nh_X0.2, pd_9⟩, by decide⟩
set_option maxRecDepth 100000 in
theorem i_X0_sum : iok yX0_sum := ⟨(gwt_6 2 rfl rfl), (gwt_6 3 rfl rfl)⟩
set_option maxRecDepth 100000 in
theorem m_X0_shownBy : mok yX0_shownBy cX0_shownBy 2 (some .int) 1 := ⟨(gwt_1 9 rfl rfl), (gwt_6 8 rfl rfl), ⟨nh_X0.1, nh_X0.2, pd_2⟩, by decide⟩
set_option maxRecDepth 100000 in
theorem s_X0_shownBy : Cond.static yX0_shownBy ∈ gw := (gwt_6 7 rfl rfl)
set_option maxRecDepth 100000 in
theorem m_X0_logic : mok yX0_logic cX0_logic 2 (some .int) 1 := ⟨(gwt_1 9 rfl rfl), (gwt_6 13 rfl rfl), ⟨nh_X0.1, nh_X0.2, pd_2⟩, by decide⟩
set_option maxRecDepth 100000 in
theorem i_X0_logic : iok yX0_logic := ⟨(gwt_6 11 rfl rfl), (gwt_6 12 rfl rfl)⟩
set_option maxRecDepth 100000 in
theorem m_X0_difference : mok yX0_difference cX0_difference 10 (some .int) 3 := ⟨(gwt_1 9 rfl rfl), (gwt_6 17 rfl rfl), ⟨nh_X0.1, nh_X0.2, pd_9⟩, by decide⟩
set_option maxRecDepth 100000 in
theorem i_X0_difference : iok yX0_difference := ⟨(gwt_6 15 rfl rfl), (gwt_6 16 rfl rfl)⟩
set_option maxRecDepth 100000 in
theorem m_X7_writeUnlessCompared : mok yX7_writeUnlessCompared cX7_writeUnlessCompared 2 none 1 := ⟨(gwt_1 8 rfl rfl), (gwt_6 21 rfl rfl), ⟨nh_X7.1, nh_X7.2, pd_18⟩, by decide⟩
set_option maxRecDepth 100000 in
theorem i_X7_writeUnlessCompared : iok yX7_writeUnlessCompared := ⟨(gwt_6 20 rfl rfl), (gwt_0 102 rfl rfl)⟩
set_option maxRecDepth 100000 in
theorem m_X7_writeM : mok yX7_writeM cX7_writeM 2 none 1 := ⟨(gwt_1 8 rfl rfl), (gwt_6 25 rfl rfl), ⟨nh_X7.1, nh_X7.2, pd_18⟩, by decide⟩
set_option maxRecDepth 100000 in
theorem i_X7_writeM : iok yX7_writeM := ⟨(gwt_6 24 rfl rfl), (gwt_0 103 rfl rfl)⟩
set_option maxRecDepth 100000 in
theorem m_X7_writeByteRegister : mok yX7_writeByteRegister cX7_writeByteRegister 4 none 2 := ⟨(gwt_1 8 rfl rfl), (gwt_6 29 rfl rfl), ⟨nh_X7.1, nh_X7.2, pd_13⟩, by decide⟩
set_option maxRecDepth 100000 in
theorem i_X7_writeByteRegister : iok yX7_writeByteRegister := ⟨(gwt_6 28 rfl rfl), (gwt_0 104 rfl rfl)⟩
set_option maxRecDepth 100000 in
theorem m_X0_stepBy : mok yX0_stepBy cX0_stepBy 5 (some .int) 2 := ⟨(gwt_1 9 rfl rfl), (gwt_6 34 rfl rfl), ⟨nh_X0.1, nh_X0.2, pd_15⟩, by decide⟩
set_option maxRecDepth 100000 in
theorem i_X0_stepBy : iok yX0_stepBy := ⟨(gwt_6 32 rfl rfl), (gwt_6 33 rfl rfl)⟩
set_option maxRecDepth 100000 in
theorem m_X0_shift : mok yX0_shift cX0_shift 6 (some .int) 3 := ⟨(gwt_1 9 rfl rfl), (gwt_6 40 rfl rfl), ⟨nh_X0.1, nh_X0.2, pd_9⟩, by decide⟩
set_option maxRecDepth 100000 in
theorem i_X0_shift : iok yX0_shift := ⟨(gwt_6 38 rfl rfl), (gwt_6 39 rfl rfl)⟩
set_option maxRecDepth 100000 in
theorem m_X0_turnOnce : mok yX0_turnOnce cX0_turnOnce 7 (some .int) 2 := ⟨(gwt_1 9 rfl rfl), (gwt_6 44 rfl rfl), ⟨nh_X0.1, nh_X0.2, pd_7⟩, by decide⟩
set_option maxRecDepth 100000 in
theorem i_X0_turnOnce : iok yX0_turnOnce := ⟨(gwt_6 43 rfl rfl), (gwt_0 105 rfl rfl)⟩
set_option maxRecDepth 100000 in
theorem m_X0_note : mok yX0_note cX0_note 3 none 2 := ⟨(gwt_1 9 rfl rfl), (gwt_6 49 rfl rfl), ⟨nh_X0.1, nh_X0.2, pd_12⟩, by decide⟩
set_option maxRecDepth 100000 in
theorem i_X0_note : iok yX0_note := ⟨(gwt_6 48 rfl rfl), (gwt_0 106 rfl rfl)⟩
set_option maxRecDepth 100000 in
theorem m_X0_shiftOnce : mok yX0_shiftOnce cX0_shiftOnce 6 (some .int) 2 := ⟨(gwt_1 9 rfl rfl), (gwt_6 53 rfl rfl), ⟨nh_X0.1, nh_X0.2, pd_7⟩, by decide⟩
set_option maxRecDepth 100000 in
theorem i_X0_shiftOnce : iok yX0_shiftOnce := ⟨(gwt_6 52 rfl rfl), (gwt_0 107 rfl rfl)⟩
set_option maxRecDepth 100000 in
theorem m_X0_noteBit : mok yX0_noteBit cX0_noteBit 3 none 2 := ⟨(gwt_1 9 rfl rfl), (gwt_6 57 rfl rfl), ⟨nh_X0.1, nh_X0.2, pd_13⟩, by decide⟩
set_option maxRecDepth 100000 in
theorem i_X0_noteBit : iok yX0_noteBit := ⟨(gwt_6 55 rfl rfl), (gwt_6 56 rfl rfl)⟩
set_option maxRecDepth 100000 in
theorem m_X0_noteWide : mok yX0_noteWide cX0_noteWide 2 none 1 := ⟨(gwt_1 9 rfl rfl), (gwt_6 61 rfl rfl), ⟨nh_X0.1, nh_X0.2, pd_14⟩, by decide⟩
set_option maxRecDepth 100000 in
theorem i_X0_noteWide : iok yX0_noteWide := ⟨(gwt_6 59 rfl rfl), (gwt_6 60 rfl rfl)⟩
set_option maxRecDepth 100000 in
theorem m_X7_calculateLong : mok yX7_calculateLong cX7_calculateLong 8 none 1 := ⟨(gwt_1 8 rfl rfl), (gwt_6 65 rfl rfl), ⟨nh_X7.1, nh_X7.2, pd_18⟩, by decide⟩
set_option maxRecDepth 100000 in
theorem i_X7_calculateLong : iok yX7_calculateLong := ⟨(gwt_6 64 rfl rfl), (gwt_0 108 rfl rfl)⟩
set_option maxRecDepth 100000 in
theorem m_X7_writeLong : mok yX7_writeLong cX7_writeLong 3 none 1 := ⟨(gwt_1 8 rfl rfl), (gwt_6 70 rfl rfl), ⟨nh_X7.1, nh_X7.2, pd_38⟩, by decide⟩
set_option maxRecDepth 100000 in
theorem i_X7_writeLong : iok yX7_writeLong := ⟨(gwt_6 69 rfl rfl), (gwt_0 109 rfl rfl)⟩
set_option maxRecDepth 100000 in
theorem m_X7_divide : mok yX7_divide cX7_divide 7 none 1 := ⟨(gwt_1 8 rfl rfl), (gwt_6 74 rfl rfl), ⟨nh_X7.1, nh_X7.2, pd_38⟩, by decide⟩
set_option maxRecDepth 100000 in
theorem i_X7_divide : iok yX7_divide := ⟨(gwt_6 73 rfl rfl), (gwt_0 110 rfl rfl)⟩
set_option maxRecDepth 100000 in
theorem m_X7_divideSigned : mok yX7_divideSigned cX7_divideSigned 7 none 1 := ⟨(gwt_1 8 rfl rfl), (gwt_6 79 rfl rfl), ⟨nh_X7.1, nh_X7.2, pd_38⟩, by decide⟩
set_option maxRecDepth 100000 in
theorem i_X7_divideSigned : iok yX7_divideSigned := ⟨(gwt_6 78 rfl rfl), (gwt_0 111 rfl rfl)⟩
set_option maxRecDepth 100000 in
theorem m_X7_move : mok yX7_move cX7_move 3 none 1 := ⟨(gwt_1 8 rfl rfl), (gwt_6 84 rfl rfl), ⟨nh_X7.1, nh_X7.2, pd_18⟩, by decide⟩
set_option maxRecDepth 100000 in
theorem i_X7_move : iok yX7_move := ⟨(gwt_6 83 rfl rfl), (gwt_0 112 rfl rfl)⟩
set_option maxRecDepth 100000 in
theorem m_X0_holds : mok yX0_holds cX0_holds 4 (some .boolean) 1 := ⟨(gwt_1 9 rfl rfl), (gwt_6 88 rfl rfl), ⟨nh_X0.1, nh_X0.2, pd_10⟩, by decide⟩
set_option maxRecDepth 100000 in
theorem i_X0_holds : iok yX0_holds := ⟨(gwt_6 86 rfl rfl), (gwt_6 87 rfl rfl)⟩
set_option maxRecDepth 100000 in
theorem m_X7_jump : mok yX7_jump cX7_jump 4 none 1 := ⟨(gwt_1 8 rfl rfl), (gwt_6 92 rfl rfl), ⟨nh_X7.1, nh_X7.2, pd_18⟩, by decide⟩
set_option maxRecDepth 100000 in
theorem i_X7_jump : iok yX7_jump := ⟨(gwt_6 91 rfl rfl), (gwt_0 113 rfl rfl)⟩
set_option maxRecDepth 100000 in
theorem m_X7_push : mok yX7_push cX7_push 3 none 1 := ⟨(gwt_1 8 rfl rfl), (gwt_6 96 rfl rfl), ⟨nh_X7.1, nh_X7.2, pd_18⟩, by decide⟩
set_option maxRecDepth 100000 in
theorem i_X7_push : iok yX7_push := ⟨(gwt_6 95 rfl rfl), (gwt_0 114 rfl rfl)⟩
set_option maxRecDepth 100000 in
theorem m_X7_holdsWord : mok yX7_holdsWord cX7_holdsWord 1 (some .boolean) 1 := ⟨(gwt_1 8 rfl rfl), (gwt_6 99 rfl rfl), ⟨nh_X7.1, nh_X7.2, pd_10⟩, by decide⟩
set_option maxRecDepth 100000 in
theorem s_X7_holdsWord : Cond.static yX7_holdsWord ∈ gw := (gwt_6 98 rfl rfl)
set_option maxRecDepth 100000 in
theorem m_X7_pop : mok yX7_pop cX7_pop 2 (some .int) 0 := ⟨(gwt_1 8 rfl rfl), (gwt_6 104 rfl rfl), ⟨nh_X7.1, nh_X7.2, pd_20⟩, by decide⟩
set_option maxRecDepth 100000 in
theorem i_X7_pop : iok yX7_pop := ⟨(gwt_6 103 rfl rfl), (gwt_0 115 rfl rfl)⟩
set_option maxRecDepth 100000 in
theorem m_X6_note : mok yX6_note cX6_note 5 none 3 := ⟨(gwt_1 12 rfl rfl), (gwt_6 108 rfl rfl), ⟨nh_X6.1, nh_X6.2, pd_36⟩, by decide⟩
set_option maxRecDepth 100000 in
theorem i_X6_note : iok yX6_note := ⟨(gwt_6 106 rfl rfl), (gwt_6 107 rfl rfl)⟩
set_option maxRecDepth 100000 in
theorem m_X6_noteEvents : mok yX6_noteEvents cX6_noteEvents 4 none 2 := ⟨(gwt_1 12 rfl rfl), (gwt_6 113 rfl rfl), ⟨nh_X6.1, nh_X6.2, pd_37⟩, by decide⟩
set_option maxRecDepth 100000 in
theorem i_X6_noteEvents : iok yX6_noteEvents := ⟨(gwt_6 112 rfl rfl), (gwt_0 116 rfl rfl)⟩
set_option maxRecDepth 100000 in
theorem m_X11_peak : mok yX11_peak cX11_peak 1 (some .int) 0 := ⟨(gwt_1 1 rfl rfl), (gwt_6 118 rfl rfl), ⟨nh_X11.1, nh_X11.2, pd_20⟩, by decide⟩
set_option maxRecDepth 100000 in
theorem i_X11_peak : iok yX11_peak := ⟨(gwt_6 116 rfl rfl), (gwt_6 117 rfl rfl)⟩
set_option maxRecDepth 100000 in
theorem m_X11_event : mok yX11_event cX11_event 3 (some .int) 2 := ⟨(gwt_1 1 rfl rfl), (gwt_6 122 rfl rfl), ⟨nh_X11.1, nh_X11.2, pd_7⟩, by decide⟩
set_option maxRecDepth 100000 in
theorem i_X11_event : iok yX11_event := ⟨(gwt_6 120 rfl rfl), (gwt_6 121 rfl rfl)⟩
set_option maxRecDepth 100000 in
theorem m_X11_place : mok yX11_place cX11_place 2 (some .int) 0 := ⟨(gwt_1 1 rfl rfl), (gwt_6 126 rfl rfl), ⟨nh_X11.1, nh_X11.2, pd_20⟩, by decide⟩
set_option maxRecDepth 100000 in
theorem i_X11_place : iok yX11_place := ⟨(gwt_6 124 rfl rfl), (gwt_6 125 rfl rfl)⟩
set_option maxRecDepth 100000 in
theorem m_X11_check : mok yX11_check cX11_check 2 (some .int) 1 := ⟨(gwt_1 1 rfl rfl), (gwt_6 131 rfl rfl), ⟨nh_X11.1, nh_X11.2, pd_2⟩, by decide⟩
set_option maxRecDepth 100000 in
theorem i_X11_check : iok yX11_check := ⟨(gwt_6 129 rfl rfl), (gwt_6 130 rfl rfl)⟩
set_option maxRecDepth 100000 in
theorem m_X2_look : mok yX2_look cX2_look 3 none 2 := ⟨(gwt_1 11 rfl rfl), (gwt_6 135 rfl rfl), ⟨nh_X2.1, nh_X2.2, pd_27⟩, by decide⟩
set_option maxRecDepth 100000 in
theorem i_X2_look : iok yX2_look := ⟨(gwt_6 133 rfl rfl), (gwt_6 134 rfl rfl)⟩
set_option maxRecDepth 100000 in
theorem m_X2_findGoals : mok yX2_findGoals cX2_findGoals 3 none 0 := ⟨(gwt_1 11 rfl rfl), (gwt_6 141 rfl rfl), ⟨nh_X2.1, nh_X2.2, pd_11⟩, by decide⟩
set_option maxRecDepth 100000 in
theorem i_X2_findGoals : iok yX2_findGoals := ⟨(gwt_6 140 rfl rfl), (gwt_0 117 rfl rfl)⟩
set_option maxRecDepth 100000 in
theorem m_X2_isInstruction : mok yX2_isInstruction cX2_isInstruction 2 (some .boolean) 1 := ⟨(gwt_1 11 rfl rfl), (gwt_6 147 rfl rfl), ⟨nh_X2.1, nh_X2.2, pd_10⟩, by decide⟩
set_option maxRecDepth 100000 in
theorem i_X2_isInstruction : iok yX2_isInstruction := ⟨(gwt_6 146 rfl rfl), (gwt_0 118 rfl rfl)⟩
set_option maxRecDepth 100000 in
theorem m_X2_addBit : mok yX2_addBit cX2_addBit 2 none 2 := ⟨(gwt_1 11 rfl rfl), (gwt_6 150 rfl rfl), ⟨nh_X2.1, nh_X2.2, pd_4⟩, by decide⟩
set_option maxRecDepth 100000 in
theorem s_X2_addBit : Cond.static yX2_addBit ∈ gw := (gwt_6 149 rfl rfl)
set_option maxRecDepth 100000 in
theorem m_X2_jumpsByNumber : mok yX2_jumpsByNumber cX2_jumpsByNumber 1 (some .boolean) 0 := ⟨(gwt_1 11 rfl rfl), (gwt_6 154 rfl rfl), ⟨nh_X2.1, nh_X2.2, pd_23⟩, by decide⟩
set_option maxRecDepth 100000 in
theorem i_X2_jumpsByNumber : iok yX2_jumpsByNumber := ⟨(gwt_6 153 rfl rfl), (gwt_0 119 rfl rfl)⟩
set_option maxRecDepth 100000 in
theorem m_J9_max_7cf53 : mok yJ9_max_7cf53 cJ9_max_7cf53 2 (some .int) 2 := ⟨(gwt_1 21 rfl rfl), (gwt_6 157 rfl rfl), ⟨nh_J9.1, nh_J9.2, pd_7⟩, by decide⟩
set_option maxRecDepth 100000 in
theorem s_J9_max_7cf53 : Cond.static yJ9_max_7cf53 ∈ gw := (gwt_6 156 rfl rfl)
set_option maxRecDepth 100000 in
theorem m_X2_findRefused : mok yX2_findRefused cX2_findRefused 2 none 0 := ⟨(gwt_1 11 rfl rfl), (gwt_6 161 rfl rfl), ⟨nh_X2.1, nh_X2.2, pd_11⟩, by decide⟩
set_option maxRecDepth 100000 in
theorem i_X2_findRefused : iok yX2_findRefused := ⟨(gwt_6 160 rfl rfl), (gwt_0 120 rfl rfl)⟩
set_option maxRecDepth 100000 in
theorem m_X2_dropAll : mok yX2_dropAll cX2_dropAll 1 none 0 := ⟨(gwt_1 11 rfl rfl), (gwt_6 165 rfl rfl), ⟨nh_X2.1, nh_X2.2, pd_11⟩, by decide⟩
set_option maxRecDepth 100000 in
theorem i_X2_dropAll : iok yX2_dropAll := ⟨(gwt_6 164 rfl rfl), (gwt_0 121 rfl rfl)⟩
set_option maxRecDepth 100000 in
theorem m_X2_hasBit : mok yX2_hasBit cX2_hasBit 2 (some .boolean) 2 := ⟨(gwt_1 11 rfl rfl), (gwt_6 168 rfl rfl), ⟨nh_X2.1, nh_X2.2, pd_26⟩, by decide⟩
set_option maxRecDepth 100000 in
theorem s_X2_hasBit : Cond.static yX2_hasBit ∈ gw := (gwt_6 167 rfl rfl)
set_option maxRecDepth 100000 in
theorem m_X2_reasonAt : mok yX2_reasonAt cX2_reasonAt 3 (some .int) 1 := ⟨(gwt_1 11 rfl rfl), (gwt_6 172 rfl rfl), ⟨nh_X2.1, nh_X2.2, pd_2⟩, by decide⟩
set_option maxRecDepth 100000 in
theorem i_X2_reasonAt : iok yX2_reasonAt := ⟨(gwt_6 171 rfl rfl), (gwt_0 122 rfl rfl)⟩
set_option maxRecDepth 100000 in
theorem m_X2_isConfined : mok yX2_isConfined cX2_isConfined 2 (some .boolean) 0 := ⟨(gwt_1 11 rfl rfl), (gwt_6 176 rfl rfl), ⟨nh_X2.1, nh_X2.2, pd_23⟩, by decide⟩
set_option maxRecDepth 100000 in
theorem i_X2_isConfined : iok yX2_isConfined := ⟨(gwt_6 175 rfl rfl), (gwt_0 123 rfl rfl)⟩
set_option maxRecDepth 100000 in
theorem m_X2_leadsWell : mok yX2_leadsWell cX2_leadsWell 2 (some .boolean) 1 := ⟨(gwt_1 11 rfl rfl), (gwt_6 182 rfl rfl), ⟨nh_X2.1, nh_X2.2, pd_10⟩, by decide⟩
set_option maxRecDepth 100000 in
theorem i_X2_leadsWell : iok yX2_leadsWell := ⟨(gwt_6 181 rfl rfl), (gwt_0 124 rfl rfl)⟩
set_option maxRecDepth 100000 in
theorem m_X2_noteChain : mok yX2_noteChain cX2_noteChain 2 none 0 := ⟨(gwt_1 11 rfl rfl), (gwt_6 187 rfl rfl), ⟨nh_X2.1, nh_X2.2, pd_11⟩, by decide⟩
set_option maxRecDepth 100000 in
theorem i_X2_noteChain : iok yX2_noteChain := ⟨(gwt_6 186 rfl rfl), (gwt_0 125 rfl rfl)⟩
set_option maxRecDepth 100000 in
theorem m_X2_noteMasks : mok yX2_noteMasks cX2_noteMasks 1 none 0 := ⟨(gwt_1 11 rfl rfl), (gwt_6 192 rfl rfl), ⟨nh_X2.1, nh_X2.2, pd_11⟩, by decide⟩
set_option maxRecDepth 100000 in
theorem i_X2_noteMasks : iok yX2_noteMasks := ⟨(gwt_6 191 rfl rfl), (gwt_0 126 rfl rfl)⟩
set_option maxRecDepth 100000 in
theorem m_X2_dropM : mok yX2_dropM cX2_dropM 1 none 0 := ⟨(gwt_1 11 rfl rfl), (gwt_6 196 rfl rfl), ⟨nh_X2.1, nh_X2.2, pd_11⟩, by decide⟩
set_option maxRecDepth 100000 in
theorem i_X2_dropM : iok yX2_dropM := ⟨(gwt_6 195 rfl rfl), (gwt_0 127 rfl rfl)⟩
set_option maxRecDepth 100000 in
theorem m_X2_keepMask : mok yX2_keepMask cX2_keepMask 2 none 0 := ⟨(gwt_1 11 rfl rfl), (gwt_6 200 rfl rfl), ⟨nh_X2.1, nh_X2.2, pd_11⟩, by decide⟩
set_option maxRecDepth 100000 in
theorem i_X2_keepMask : iok yX2_keepMask := ⟨(gwt_6 199 rfl rfl), (gwt_0 128 rfl rfl)⟩
set_option maxRecDepth 100000 in
theorem m_X11_begin : mok yX11_begin cX11_begin 2 (some .boolean) 1 := ⟨(gwt_1 1 rfl rfl), (gwt_6 205 rfl rfl), ⟨nh_X11.1, nh_X11.2, pd_10⟩, by decide⟩
set_option maxRecDepth 100000 in
theorem i_X11_begin : iok yX11_begin := ⟨(gwt_6 203 rfl rfl), (gwt_6 204 rfl rfl)⟩
set_option maxRecDepth 100000 in
theorem m_X11_run : mok yX11_run cX11_run 2 (some .int) 1 := ⟨(gwt_1 1 rfl rfl), (gwt_6 210 rfl rfl), ⟨nh_X11.1, nh_X11.2, pd_2⟩, by decide⟩
set_option maxRecDepth 100000 in
theorem i_X11_run : iok yX11_run := ⟨(gwt_6 208 rfl rfl), (gwt_6 209 rfl rfl)⟩
set_option maxRecDepth 100000 in
theorem m_X11_get : mok yX11_get cX11_get 2 (some .int) 1 := ⟨(gwt_1 1 rfl rfl), (gwt_6 215 rfl rfl), ⟨nh_X11.1, nh_X11.2, pd_2⟩, by decide⟩
set_option maxRecDepth 100000 in
theorem i_X11_get : iok yX11_get := ⟨(gwt_6 213 rfl rfl), (gwt_6 214 rfl rfl)⟩
set_option maxRecDepth 100000 in
theorem m_X11_put : mok yX11_put cX11_put 3 (some .boolean) 2 := ⟨(gwt_1 1 rfl rfl), (gwt_6 219 rfl rfl), ⟨nh_X11.1, nh_X11.2, pd_17⟩, by decide⟩
set_option maxRecDepth 100000 in
theorem i_X11_put : iok yX11_put := ⟨(gwt_6 217 rfl rfl), (gwt_6 218 rfl rfl)⟩
set_option maxRecDepth 100000 in
theorem m_X11_store : mok yX11_store cX11_store 3 (some .boolean) 2 := ⟨(gwt_1 1 rfl rfl), (gwt_6 223 rfl rfl), ⟨nh_X11.1, nh_X11.2, pd_17⟩, by decide⟩
set_option maxRecDepth 100000 in
theorem i_X11_store : iok yX11_store := ⟨(gwt_6 221 rfl rfl), (gwt_6 222 rfl rfl)⟩
set_option maxRecDepth 100000 in
theorem m_X11_load : mok yX11_load cX11_load 2 (some .int) 1 := ⟨(gwt_1 1 rfl rfl), (gwt_6 229 rfl rfl), ⟨nh_X11.1, nh_X11.2, pd_2⟩, by decide⟩
set_option maxRecDepth 100000 in
theorem i_X11_load : iok yX11_load := ⟨(gwt_6 227 rfl rfl), (gwt_6 228 rfl rfl)⟩
set_option maxRecDepth 100000 in
theorem m_X14_init : mok yX14_init cX14_init 1 none 0 := ⟨(gwt_1 13 rfl rfl), (gwt_6 235 rfl rfl), ⟨nh_X14.1, nh_X14.2, pd_11⟩, by decide⟩
set_option maxRecDepth 100000 in
theorem im_X14_init : Cond.instanceMethod yX14_init ∈ gw := (gwt_6 234 rfl rfl)
set_option maxRecDepth 100000 in
theorem m_X12_init : mok yX12_init cX12_init 1 none 0 := ⟨(gwt_1 17 rfl rfl), (gwt_7 38 rfl rfl), ⟨nh_X12.1, nh_X12.2, pd_11⟩, by decide⟩
set_option maxRecDepth 100000 in
theorem im_X12_init : Cond.instanceMethod yX12_init ∈ gw := (gwt_7 37 rfl rfl)
set_option maxRecDepth 100000 in
theorem m_X13_init : mok yX13_init cX13_init 1 none 0 := ⟨(gwt_1 18 rfl rfl), (gwt_7 66 rfl rfl), ⟨nh_X13.1, nh_X13.2, pd_11⟩, by decide⟩
set_option maxRecDepth 100000 in
theorem im_X13_init : Cond.instanceMethod yX13_init ∈ gw := (gwt_7 65 rfl rfl)
set_option maxRecDepth 100000 in
theorem m_X14_feed : mok yX14_feed cX14_feed 8 (some .int) 5 := ⟨(gwt_1 13 rfl rfl), (gwt_8 154 rfl rfl), ⟨nh_X14.1, nh_X14.2, pd_19⟩, by decide⟩
set_option maxRecDepth 100000 in
theorem i_X14_feed : iok yX14_feed := ⟨(gwt_8 152 rfl rfl), (gwt_8 153 rfl rfl)⟩
set_option maxRecDepth 100000 in
theorem m_X14_end : mok yX14_end cX14_end 2 (some .int) 1 := ⟨(gwt_1 13 rfl rfl), (gwt_8 158 rfl rfl), ⟨nh_X14.1, nh_X14.2, pd_2⟩, by decide⟩
set_option maxRecDepth 100000 in
theorem i_X14_end : iok yX14_end := ⟨(gwt_8 156 rfl rfl), (gwt_8 157 rfl rfl)⟩
set_option maxRecDepth 100000 in
theorem m_X14_subject : mok yX14_subject cX14_subject 2 (some .int) 0 := ⟨(gwt_1 13 rfl rfl), (gwt_8 162 rfl rfl), ⟨nh_X14.1, nh_X14.2, pd_20⟩, by decide⟩
set_option maxRecDepth 100000 in
theorem i_X14_subject : iok yX14_subject := ⟨(gwt_8 160 rfl rfl), (gwt_8 161 rfl rfl)⟩
set_option maxRecDepth 100000 in
theorem m_X14_text : mok yX14_text cX14_text 1 none 0 := ⟨(gwt_1 13 rfl rfl), (gwt_8 170 rfl rfl), ⟨nh_X14.1, nh_X14.2, pd_11⟩, by decide⟩
set_option maxRecDepth 100000 in
theorem i_X14_text : iok yX14_text := ⟨(gwt_8 169 rfl rfl), (gwt_0 130 rfl rfl)⟩
set_option maxRecDepth 100000 in
theorem m_X14_skip : mok yX14_skip cX14_skip 3 none 0 := ⟨(gwt_1 13 rfl rfl), (gwt_8 174 rfl rfl), ⟨nh_X14.1, nh_X14.2, pd_11⟩, by decide⟩
set_option maxRecDepth 100000 in
theorem i_X14_skip : iok yX14_skip := ⟨(gwt_8 173 rfl rfl), (gwt_0 131 rfl rfl)⟩
set_option maxRecDepth 100000 in
theorem m_X14_peek : mok yX14_peek cX14_peek 1 (some .int) 0 := ⟨(gwt_1 13 rfl rfl), (gwt_8 178 rfl rfl), ⟨nh_X14.1, nh_X14.2, pd_20⟩, by decide⟩
set_option maxRecDepth 100000 in
theorem i_X14_peek : iok yX14_peek := ⟨(gwt_8 177 rfl rfl), (gwt_0 132 rfl rfl)⟩
set_option maxRecDepth 100000 in
theorem m_X14_malformed : mok yX14_malformed cX14_malformed 2 none 1 := ⟨(gwt_1 13 rfl rfl), (gwt_8 182 rfl rfl), ⟨nh_X14.1, nh_X14.2, pd_18⟩, by decide⟩
set_option maxRecDepth 100000 in
theorem i_X14_malformed : iok yX14_malformed := ⟨(gwt_8 181 rfl rfl), (gwt_0 133 rfl rfl)⟩
set_option maxRecDepth 100000 in
theorem m_X14_beginsName : mok yX14_beginsName cX14_beginsName 1 (some .boolean) 1 := ⟨(gwt_1 13 rfl rfl), (gwt_8 185 rfl rfl), ⟨nh_X14.1, nh_X14.2, pd_10⟩, by decide⟩
set_option maxRecDepth 100000 in
theorem s_X14_beginsName : Cond.static yX14_beginsName ∈ gw := (gwt_8 184 rfl rfl)
set_option maxRecDepth 100000 in
theorem m_X14_name : mok yX14_name cX14_name 3 none 1 := ⟨(gwt_1 13 rfl rfl), (gwt_8 189 rfl rfl), ⟨nh_X14.1, nh_X14.2, pd_18⟩, by decide⟩
set_option maxRecDepth 100000 in
theorem i_X14_name : iok yX14_name := ⟨(gwt_8 188 rfl rfl), (gwt_0 134 rfl rfl)⟩
set_option maxRecDepth 100000 in
theorem m_X14_need : mok yX14_need cX14_need 2 none 1 := ⟨(gwt_1 13 rfl rfl), (gwt_8 193 rfl rfl), ⟨nh_X14.1, nh_X14.2, pd_18⟩, by decide⟩
set_option maxRecDepth 100000 in
theorem i_X14_need : iok yX14_need := ⟨(gwt_8 192 rfl rfl), (gwt_0 135 rfl rfl)⟩
set_option maxRecDepth 100000 in
theorem m_X14_choice : mok yX14_choice cX14_choice 6 (some .int) 0 := ⟨(gwt_1 13 rfl rfl), (gwt_8 197 rfl rfl), ⟨nh_X14.1, nh_X14.2, pd_20⟩, by decide⟩
set_option maxRecDepth 100000 in
theorem i_X14_choice : iok yX14_choice := ⟨(gwt_8 196 rfl rfl), (gwt_0 136 rfl rfl)⟩
set_option maxRecDepth 100000 in
theorem m_X14_sequence : mok yX14_sequence cX14_sequence 4 (some .int) 0 := ⟨(gwt_1 13 rfl rfl), (gwt_8 201 rfl rfl), ⟨nh_X14.1, nh_X14.2, pd_20⟩, by decide⟩
set_option maxRecDepth 100000 in
theorem i_X14_sequence : iok yX14_sequence := ⟨(gwt_8 200 rfl rfl), (gwt_0 137 rfl rfl)⟩
set_option maxRecDepth 100000 in
theorem m_X14_beginsPrimary : mok yX14_beginsPrimary cX14_beginsPrimary 1 (some .boolean) 1 := ⟨(gwt_1 13 rfl rfl), (gwt_8 204 rfl rfl), ⟨nh_X14.1, nh_X14.2, pd_10⟩, by decide⟩
set_option maxRecDepth 100000 in
theorem s_X14_beginsPrimary : Cond.static yX14_beginsPrimary ∈ gw := (gwt_8 203 rfl rfl)
set_option maxRecDepth 100000 in
theorem m_X14_prefix : mok yX14_prefix cX14_prefix 6 (some .int) 0 := ⟨(gwt_1 13 rfl rfl), (gwt_8 208 rfl rfl), ⟨nh_X14.1, nh_X14.2, pd_20⟩, by decide⟩
set_option maxRecDepth 100000 in
theorem i_X14_prefix : iok yX14_prefix := ⟨(gwt_8 207 rfl rfl), (gwt_0 138 rfl rfl)⟩
set_option maxRecDepth 100000 in
theorem m_X14_opens : mok yX14_opens cX14_opens 1 none 0 := ⟨(gwt_1 13 rfl rfl), (gwt_8 212 rfl rfl), ⟨nh_X14.1, nh_X14.2, pd_11⟩, by decide⟩
set_option maxRecDepth 100000 in
theorem i_X14_opens : iok yX14_opens := ⟨(gwt_8 211 rfl rfl), (gwt_0 139 rfl rfl)⟩
set_option maxRecDepth 100000 in
theorem m_X14_suffix : mok yX14_suffix cX14_suffix 5 (some .int) 0 := ⟨(gwt_1 13 rfl rfl), (gwt_8 216 rfl rfl), ⟨nh_X14.1, nh_X14.2, pd_20⟩, by decide⟩
set_option maxRecDepth 100000 in
theorem i_X14_suffix : iok yX14_suffix := ⟨(gwt_8 215 rfl rfl), (gwt_0 140 rfl rfl)⟩
set_option maxRecDepth 100000 in
theorem m_X14_primary : mok yX14_primary cX14_primary 5 (some .int) 0 := ⟨(gwt_1 13 rfl rfl), (gwt_8 220 rfl rfl), ⟨nh_X14.1, nh_X14.2, pd_20⟩, by decide⟩
set_option maxRecDepth 100000 in
theorem i_X14_primary : iok yX14_primary := ⟨(gwt_8 219 rfl rfl), (gwt_0 141 rfl rfl)⟩
set_option maxRecDepth 100000 in
theorem m_X14_part : mok yX14_part cX14_part 5 (some .int) 2 := ⟨(gwt_1 13 rfl rfl), (gwt_8 224 rfl rfl), ⟨nh_X14.1, nh_X14.2, pd_7⟩, by decide⟩
set_option maxRecDepth 100000 in
theorem i_X14_part : iok yX14_part := ⟨(gwt_8 223 rfl rfl), (gwt_0 142 rfl rfl)⟩
set_option maxRecDepth 100000 in
theorem m_X14_literal : mok yX14_literal cX14_literal 8 (some .int) 0 := ⟨(gwt_1 13 rfl rfl), (gwt_8 228 rfl rfl), ⟨nh_X14.1, nh_X14.2, pd_20⟩, by decide⟩
set_option maxRecDepth 100000 in
theorem i_X14_literal : iok yX14_literal := ⟨(gwt_8 227 rfl rfl), (gwt_0 143 rfl rfl)⟩
set_option maxRecDepth 100000 in
theorem m_X14_escaped : mok yX14_escaped cX14_escaped 5 (some .int) 0 := ⟨(gwt_1 13 rfl rfl), (gwt_8 232 rfl rfl), ⟨nh_X14.1, nh_X14.2, pd_20⟩, by decide⟩
set_option maxRecDepth 100000 in
theorem i_X14_escaped : iok yX14_escaped := ⟨(gwt_8 231 rfl rfl), (gwt_0 144 rfl rfl)⟩
set_option maxRecDepth 100000 in
theorem m_X14_hex : mok yX14_hex cX14_hex 1 (some .int) 1 := ⟨(gwt_1 13 rfl rfl), (gwt_8 235 rfl rfl), ⟨nh_X14.1, nh_X14.2, pd_2⟩, by decide⟩
set_option maxRecDepth 100000 in
theorem s_X14_hex : Cond.static yX14_hex ∈ gw := (gwt_8 234 rfl rfl)
set_option maxRecDepth 100000 in
theorem m_X14_mark : mok yX14_mark cX14_mark 3 none 2 := ⟨(gwt_1 13 rfl rfl), (gwt_8 239 rfl rfl), ⟨nh_X14.1, nh_X14.2, pd_13⟩, by decide⟩
set_option maxRecDepth 100000 in
theorem i_X14_mark : iok yX14_mark := ⟨(gwt_8 238 rfl rfl), (gwt_0 145 rfl rfl)⟩
set_option maxRecDepth 100000 in
theorem m_X14_charClass : mok yX14_charClass cX14_charClass 6 (some .int) 0 := ⟨(gwt_1 13 rfl rfl), (gwt_9 3 rfl rfl), ⟨nh_X14.1, nh_X14.2, pd_20⟩, by decide⟩
set_option maxRecDepth 100000 in
theorem i_X14_charClass : iok yX14_charClass := ⟨(gwt_9 2 rfl rfl), (gwt_0 146 rfl rfl)⟩
set_option maxRecDepth 100000 in
theorem m_X14_item : mok yX14_item cX14_item 2 (some .int) 0 := ⟨(gwt_1 13 rfl rfl), (gwt_9 7 rfl rfl), ⟨nh_X14.1, nh_X14.2, pd_20⟩, by decide⟩
set_option maxRecDepth 100000 in
theorem i_X14_item : iok yX14_item := ⟨(gwt_9 6 rfl rfl), (gwt_0 147 rfl rfl)⟩
set_option maxRecDepth 100000 in
theorem m_X14_judge : mok yX14_judge cX14_judge 2 none 0 := ⟨(gwt_1 13 rfl rfl), (gwt_9 11 rfl rfl), ⟨nh_X14.1, nh_X14.2, pd_11⟩, by decide⟩
set_option maxRecDepth 100000 in
theorem i_X14_judge : iok yX14_judge := ⟨(gwt_9 10 rfl rfl), (gwt_0 148 rfl rfl)⟩
set_option maxRecDepth 100000 in
theorem m_X14_lookAtNames : mok yX14_lookAtNames cX14_lookAtNames 3 none 0 := ⟨(gwt_1 13 rfl rfl), (gwt_9 15 rfl rfl), ⟨nh_X14.1, nh_X14.2, pd_11⟩, by decide⟩
set_option maxRecDepth 100000 in
theorem i_X14_lookAtNames : iok yX14_lookAtNames := ⟨(gwt_9 14 rfl rfl), (gwt_0 149 rfl rfl)⟩
set_option maxRecDepth 100000 in
theorem m_X14_ruleOf : mok yX14_ruleOf cX14_ruleOf 3 (some .int) 1 := ⟨(gwt_1 13 rfl rfl), (gwt_9 19 rfl rfl), ⟨nh_X14.1, nh_X14.2, pd_2⟩, by decide⟩
set_option maxRecDepth 100000 in
theorem i_X14_ruleOf : iok yX14_ruleOf := ⟨(gwt_9 18 rfl rfl), (gwt_0 150 rfl rfl)⟩
set_option maxRecDepth 100000 in
theorem m_X14_areNames : mok yX14_areNames cX14_areNames 5 (some .boolean) 2 := ⟨(gwt_1 13 rfl rfl), (gwt_9 23 rfl rfl), ⟨nh_X14.1, nh_X14.2, pd_17⟩, by decide⟩
set_option maxRecDepth 100000 in
theorem i_X14_areNames : iok yX14_areNames := ⟨(gwt_9 22 rfl rfl), (gwt_0 151 rfl rfl)⟩
set_option maxRecDepth 100000 in
theorem m_X14_fault : mok yX14_fault cX14_fault 3 none 2 := ⟨(gwt_1 13 rfl rfl), (gwt_9 27 rfl rfl), ⟨nh_X14.1, nh_X14.2, pd_13⟩, by decide⟩
set_option maxRecDepth 100000 in
theorem i_X14_fault : iok yX14_fault := ⟨(gwt_9 26 rfl rfl), (gwt_0 152 rfl rfl)⟩
set_option maxRecDepth 100000 in
theorem m_X14_lookAtParts : mok yX14_lookAtParts cX14_lookAtParts 5 none 0 := ⟨(gwt_1 13 rfl rfl), (gwt_9 31 rfl rfl), ⟨nh_X14.1, nh_X14.2, pd_11⟩, by decide⟩
set_option maxRecDepth 100000 in
theorem i_X14_lookAtParts : iok yX14_lookAtParts := ⟨(gwt_9 30 rfl rfl), (gwt_0 153 rfl rfl)⟩
set_option maxRecDepth 100000 in
theorem m_X14_nullable : mok yX14_nullable cX14_nullable 2 (some .boolean) 1 := ⟨(gwt_1 13 rfl rfl), (gwt_9 35 rfl rfl), ⟨nh_X14.1, nh_X14.2, pd_10⟩, by decide⟩
set_option maxRecDepth 100000 in
theorem i_X14_nullable : iok yX14_nullable := ⟨(gwt_9 34 rfl rfl), (gwt_0 154 rfl rfl)⟩
set_option maxRecDepth 100000 in
theorem m_X14_areAll : mok yX14_areAll cX14_areAll 5 (some .boolean) 2 := ⟨(gwt_1 13 rfl rfl), (gwt_9 39 rfl rfl), ⟨nh_X14.1, nh_X14.2, pd_21⟩, by decide⟩
set_option maxRecDepth 100000 in
theorem i_X14_areAll : iok yX14_areAll := ⟨(gwt_9 38 rfl rfl), (gwt_0 155 rfl rfl)⟩
set_option maxRecDepth 100000 in
theorem m_X14_isAny : mok yX14_isAny cX14_isAny 5 (some .boolean) 2 := ⟨(gwt_1 13 rfl rfl), (gwt_9 43 rfl rfl), ⟨nh_X14.1, nh_X14.2, pd_21⟩, by decide⟩
set_option maxRecDepth 100000 in
theorem i_X14_isAny : iok yX14_isAny := ⟨(gwt_9 42 rfl rfl), (gwt_0 156 rfl rfl)⟩
set_option maxRecDepth 100000 in
theorem m_X14_never : mok yX14_never cX14_never 2 (some .boolean) 1 := ⟨(gwt_1 13 rfl rfl), (gwt_9 47 rfl rfl), ⟨nh_X14.1, nh_X14.2, pd_10⟩, by decide⟩
set_option maxRecDepth 100000 in
theorem i_X14_never : iok yX14_never := ⟨(gwt_9 46 rfl rfl), (gwt_0 157 rfl rfl)⟩
set_option maxRecDepth 100000 in
theorem m_X14_sure : mok yX14_sure cX14_sure 5 (some .boolean) 1 := ⟨(gwt_1 13 rfl rfl), (gwt_9 51 rfl rfl), ⟨nh_X14.1, nh_X14.2, pd_10⟩, by decide⟩
set_option maxRecDepth 100000 in
theorem i_X14_sure : iok yX14_sure := ⟨(gwt_9 50 rfl rfl), (gwt_0 158 rfl rfl)⟩
set_option maxRecDepth 100000 in
theorem m_X14_firsts : mok yX14_firsts cX14_firsts 5 (some .boolean) 1 := ⟨(gwt_1 13 rfl rfl), (gwt_9 55 rfl rfl), ⟨nh_X14.1, nh_X14.2, pd_10⟩, by decide⟩
set_option maxRecDepth 100000 in
theorem i_X14_firsts : iok yX14_firsts := ⟨(gwt_9 54 rfl rfl), (gwt_0 159 rfl rfl)⟩
set_option maxRecDepth 100000 in
theorem m_X14_comes : mok yX14_comes cX14_comes 6 (some .boolean) 2 := ⟨(gwt_1 13 rfl rfl), (gwt_9 59 rfl rfl), ⟨nh_X14.1, nh_X14.2, pd_17⟩, by decide⟩
set_option maxRecDepth 100000 in
theorem i_X14_comes : iok yX14_comes := ⟨(gwt_9 58 rfl rfl), (gwt_0 160 rfl rfl)⟩
set_option maxRecDepth 100000 in
theorem m_X14_beginsWith : mok yX14_beginsWith cX14_beginsWith 6 (some .long) 1 := ⟨(gwt_1 13 rfl rfl), (gwt_9 63 rfl rfl), ⟨nh_X14.1, nh_X14.2, pd_22⟩, by decide⟩
set_option maxRecDepth 100000 in
theorem i_X14_beginsWith : iok yX14_beginsWith := ⟨(gwt_9 62 rfl rfl), (gwt_0 161 rfl rfl)⟩
set_option maxRecDepth 100000 in
theorem m_X14_lookAtRules : mok yX14_lookAtRules cX14_lookAtRules 6 none 0 := ⟨(gwt_1 13 rfl rfl), (gwt_9 67 rfl rfl), ⟨nh_X14.1, nh_X14.2, pd_11⟩, by decide⟩
set_option maxRecDepth 100000 in
theorem i_X14_lookAtRules : iok yX14_lookAtRules := ⟨(gwt_9 66 rfl rfl), (gwt_0 162 rfl rfl)⟩
set_option maxRecDepth 100000 in
theorem m_X14_compile : mok yX14_compile cX14_compile 2 none 0 := ⟨(gwt_1 13 rfl rfl), (gwt_9 71 rfl rfl), ⟨nh_X14.1, nh_X14.2, pd_11⟩, by decide⟩
set_option maxRecDepth 100000 in
theorem i_X14_compile : iok yX14_compile := ⟨(gwt_9 70 rfl rfl), (gwt_0 163 rfl rfl)⟩
set_option maxRecDepth 100000 in
theorem m_X14_add : mok yX14_add cX14_add 5 (some .int) 3 := ⟨(gwt_1 13 rfl rfl), (gwt_9 75 rfl rfl), ⟨nh_X14.1, nh_X14.2, pd_9⟩, by decide⟩
set_option maxRecDepth 100000 in
theorem i_X14_add : iok yX14_add := ⟨(gwt_9 74 rfl rfl), (gwt_0 164 rfl rfl)⟩
set_option maxRecDepth 100000 in
theorem m_X14_add_ : mok yX14_add_ cX14_add_ 2 (some .int) 1 := ⟨(gwt_1 13 rfl rfl), (gwt_9 79 rfl rfl), ⟨nh_X14.1, nh_X14.2, pd_2⟩, by decide⟩
set_option maxRecDepth 100000 in
theorem i_X14_add_ : iok yX14_add_ := ⟨(gwt_9 78 rfl rfl), (gwt_0 165 rfl rfl)⟩
set_option maxRecDepth 100000 in
theorem m_X14_emit : mok yX14_emit cX14_emit 4 none 1 := ⟨(gwt_1 13 rfl rfl), (gwt_9 83 rfl rfl), ⟨nh_X14.1, nh_X14.2, pd_18⟩, by decide⟩
set_option maxRecDepth 100000 in
theorem i_X14_emit : iok yX14_emit := ⟨(gwt_9 82 rfl rfl), (gwt_0 166 rfl rfl)⟩
set_option maxRecDepth 100000 in
theorem m_X14_byBytes : mok yX14_byBytes cX14_byBytes 6 (some .int) 4 := ⟨(gwt_1 13 rfl rfl), (gwt_9 87 rfl rfl), ⟨nh_X14.1, nh_X14.2, pd_16⟩, by decide⟩
set_option maxRecDepth 100000 in
theorem i_X14_byBytes : iok yX14_byBytes := ⟨(gwt_9 86 rfl rfl), (gwt_0 167 rfl rfl)⟩
set_option maxRecDepth 100000 in
theorem m_X14_many : mok yX14_many cX14_many 4 (some .int) 1 := ⟨(gwt_1 13 rfl rfl), (gwt_9 91 rfl rfl), ⟨nh_X14.1, nh_X14.2, pd_2⟩, by decide⟩
set_option maxRecDepth 100000 in
theorem i_X14_many : iok yX14_many := ⟨(gwt_9 90 rfl rfl), (gwt_0 168 rfl rfl)⟩
set_option maxRecDepth 100000 in
theorem m_X14_only : mok yX14_only cX14_only 3 (some .int) 1 := ⟨(gwt_1 13 rfl rfl), (gwt_9 96 rfl rfl), ⟨nh_X14.1, nh_X14.2, pd_2⟩, by decide⟩
set_option maxRecDepth 100000 in
theorem i_X14_only : iok yX14_only := ⟨(gwt_9 95 rfl rfl), (gwt_0 169 rfl rfl)⟩
set_option maxRecDepth 100000 in
theorem m_X14_emitChoice : mok yX14_emitChoice cX14_emitChoice 7 none 1 := ⟨(gwt_1 13 rfl rfl), (gwt_9 100 rfl rfl), ⟨nh_X14.1, nh_X14.2, pd_18⟩, by decide⟩
set_option maxRecDepth 100000 in
theorem i_X14_emitChoice : iok yX14_emitChoice := ⟨(gwt_9 99 rfl rfl), (gwt_0 170 rfl rfl)⟩
set_option maxRecDepth 100000 in
theorem m_X14_mixes : mok yX14_mixes cX14_mixes 5 (some .boolean) 1 := ⟨(gwt_1 13 rfl rfl), (gwt_9 104 rfl rfl), ⟨nh_X14.1, nh_X14.2, pd_10⟩, by decide⟩
set_option maxRecDepth 100000 in
theorem i_X14_mixes : iok yX14_mixes := ⟨(gwt_9 103 rfl rfl), (gwt_0 171 rfl rfl)⟩
set_option maxRecDepth 100000 in
theorem m_X14_test : mok yX14_test cX14_test 2 (some .int) 1 := ⟨(gwt_1 13 rfl rfl), (gwt_9 108 rfl rfl), ⟨nh_X14.1, nh_X14.2, pd_2⟩, by decide⟩
set_option maxRecDepth 100000 in
theorem i_X14_test : iok yX14_test := ⟨(gwt_9 107 rfl rfl), (gwt_0 172 rfl rfl)⟩
set_option maxRecDepth 100000 in
theorem m_X14_testUnlessNullable : mok yX14_testUnlessNullable cX14_testUnlessNullable 2 (some .int) 1 := ⟨(gwt_1 13 rfl rfl), (gwt_9 112 rfl rfl), ⟨nh_X14.1, nh_X14.2, pd_2⟩, by decide⟩
set_option maxRecDepth 100000 in
theorem i_X14_testUnlessNullable : iok yX14_testUnlessNullable := ⟨(gwt_9 111 rfl rfl), (gwt_0 173 rfl rfl)⟩
set_option maxRecDepth 100000 in
theorem m_X14_here : mok yX14_here cX14_here 2 none 1 := ⟨(gwt_1 13 rfl rfl), (gwt_9 116 rfl rfl), ⟨nh_X14.1, nh_X14.2, pd_18⟩, by decide⟩
set_option maxRecDepth 100000 in
theorem i_X14_here : iok yX14_here := ⟨(gwt_9 115 rfl rfl), (gwt_0 174 rfl rfl)⟩
set_option maxRecDepth 100000 in
theorem m_X14_emitMaybe : mok yX14_emitMaybe cX14_emitMaybe 5 none 1 := ⟨(gwt_1 13 rfl rfl), (gwt_9 120 rfl rfl), ⟨nh_X14.1, nh_X14.2, pd_18⟩, by decide⟩
set_option maxRecDepth 100000 in
theorem i_X14_emitMaybe : iok yX14_emitMaybe := ⟨(gwt_9 119 rfl rfl), (gwt_0 175 rfl rfl)⟩
set_option maxRecDepth 100000 in
theorem m_X14_emitStar : mok yX14_emitStar cX14_emitStar 5 none 1 := ⟨(gwt_1 13 rfl rfl), (gwt_9 124 rfl rfl), ⟨nh_X14.1, nh_X14.2, pd_18⟩, by decide⟩
set_option maxRecDepth 100000 in
theorem i_X14_emitStar : iok yX14_emitStar := ⟨(gwt_9 123 rfl rfl), (gwt_0 176 rfl rfl)⟩
set_option maxRecDepth 100000 in
theorem m_X14_emitNot : mok yX14_emitNot cX14_emitNot 4 none 1 := ⟨(gwt_1 13 rfl rfl), (gwt_9 128 rfl rfl), ⟨nh_X14.1, nh_X14.2, pd_18⟩, by decide⟩
set_option maxRecDepth 100000 in
theorem i_X14_emitNot : iok yX14_emitNot := ⟨(gwt_9 127 rfl rfl), (gwt_0 177 rfl rfl)⟩
set_option maxRecDepth 100000 in
theorem m_X14_emitAnd : mok yX14_emitAnd cX14_emitAnd 5 none 1 := ⟨(gwt_1 13 rfl rfl), (gwt_9 132 rfl rfl), ⟨nh_X14.1, nh_X14.2, pd_18⟩, by decide⟩
set_option maxRecDepth 100000 in
theorem i_X14_emitAnd : iok yX14_emitAnd := ⟨(gwt_9 131 rfl rfl), (gwt_0 178 rfl rfl)⟩
set_option maxRecDepth 100000 in
theorem m_X14_jumpsOn : mok yX14_jumpsOn cX14_jumpsOn 2 none 0 := ⟨(gwt_1 13 rfl rfl), (gwt_9 136 rfl rfl), ⟨nh_X14.1, nh_X14.2, pd_11⟩, by decide⟩
set_option maxRecDepth 100000 in
theorem i_X14_jumpsOn : iok yX14_jumpsOn := ⟨(gwt_9 135 rfl rfl), (gwt_0 179 rfl rfl)⟩
set_option maxRecDepth 100000 in
theorem m_X14_hasTarget : mok yX14_hasTarget cX14_hasTarget 1 (some .boolean) 1 := ⟨(gwt_1 13 rfl rfl), (gwt_9 139 rfl rfl), ⟨nh_X14.1, nh_X14.2, pd_10⟩, by decide⟩
set_option maxRecDepth 100000 in
theorem s_X14_hasTarget : Cond.static yX14_hasTarget ∈ gw := (gwt_9 138 rfl rfl)
set_option maxRecDepth 100000 in
theorem m_X14_jumpsBecome : mok yX14_jumpsBecome cX14_jumpsBecome 3 none 0 := ⟨(gwt_1 13 rfl rfl), (gwt_9 143 rfl rfl), ⟨nh_X14.1, nh_X14.2, pd_11⟩, by decide⟩
set_option maxRecDepth 100000 in
theorem i_X14_jumpsBecome : iok yX14_jumpsBecome := ⟨(gwt_9 142 rfl rfl), (gwt_0 180 rfl rfl)⟩
set_option maxRecDepth 100000 in
theorem m_X14_sets : mok yX14_sets cX14_sets 5 none 0 := ⟨(gwt_1 13 rfl rfl), (gwt_9 147 rfl rfl), ⟨nh_X14.1, nh_X14.2, pd_11⟩, by decide⟩
set_option maxRecDepth 100000 in
theorem i_X14_sets : iok yX14_sets := ⟨(gwt_9 146 rfl rfl), (gwt_0 181 rfl rfl)⟩
set_option maxRecDepth 100000 in
theorem m_X14_areSets : mok yX14_areSets cX14_areSets 5 (some .boolean) 2 := ⟨(gwt_1 13 rfl rfl), (gwt_9 151 rfl rfl), ⟨nh_X14.1, nh_X14.2, pd_17⟩, by decide⟩
set_option maxRecDepth 100000 in
theorem i_X14_areSets : iok yX14_areSets := ⟨(gwt_9 150 rfl rfl), (gwt_0 182 rfl rfl)⟩
set_option maxRecDepth 100000 in
theorem m_X14_image : mok yX14_image cX14_image 4 none 0 := ⟨(gwt_1 13 rfl rfl), (gwt_9 155 rfl rfl), ⟨nh_X14.1, nh_X14.2, pd_11⟩, by decide⟩
set_option maxRecDepth 100000 in
theorem i_X14_image : iok yX14_image := ⟨(gwt_9 154 rfl rfl), (gwt_0 183 rfl rfl)⟩
set_option maxRecDepth 100000 in
theorem m_X14_beginsBundle : mok yX14_beginsBundle cX14_beginsBundle 4 (some .boolean) 1 := ⟨(gwt_1 13 rfl rfl), (gwt_9 159 rfl rfl), ⟨nh_X14.1, nh_X14.2, pd_10⟩, by decide⟩
set_option maxRecDepth 100000 in
theorem i_X14_beginsBundle : iok yX14_beginsBundle := ⟨(gwt_9 158 rfl rfl), (gwt_0 184 rfl rfl)⟩
set_option maxRecDepth 100000 in
theorem m_X14_piece : mok yX14_piece cX14_piece 4 none 3 := ⟨(gwt_1 13 rfl rfl), (gwt_9 163 rfl rfl), ⟨nh_X14.1, nh_X14.2, pd_6⟩, by decide⟩
set_option maxRecDepth 100000 in
theorem i_X14_piece : iok yX14_piece := ⟨(gwt_9 162 rfl rfl), (gwt_0 185 rfl rfl)⟩
set_option maxRecDepth 100000 in
theorem m_X14_translate : mok yX14_translate cX14_translate 4 none 1 := ⟨(gwt_1 13 rfl rfl), (gwt_9 167 rfl rfl), ⟨nh_X14.1, nh_X14.2, pd_18⟩, by decide⟩
set_option maxRecDepth 100000 in
theorem i_X14_translate : iok yX14_translate := ⟨(gwt_9 166 rfl rfl), (gwt_0 186 rfl rfl)⟩
set_option maxRecDepth 100000 in
theorem m_X14_labelFail : mok yX14_labelFail cX14_labelFail 1 (some .int) 0 := ⟨(gwt_1 13 rfl rfl), (gwt_9 171 rfl rfl), ⟨nh_X14.1, nh_X14.2, pd_20⟩, by decide⟩
set_option maxRecDepth 100000 in
theorem i_X14_labelFail : iok yX14_labelFail := ⟨(gwt_9 170 rfl rfl), (gwt_0 187 rfl rfl)⟩
set_option maxRecDepth 100000 in
theorem m_X14_nextByte : mok yX14_nextByte cX14_nextByte 2 none 1 := ⟨(gwt_1 13 rfl rfl), (gwt_9 175 rfl rfl), ⟨nh_X14.1, nh_X14.2, pd_18⟩, by decide⟩
set_option maxRecDepth 100000 in
theorem i_X14_nextByte : iok yX14_nextByte := ⟨(gwt_9 174 rfl rfl), (gwt_0 188 rfl rfl)⟩
set_option maxRecDepth 100000 in
theorem m_X14_inBounds : mok yX14_inBounds cX14_inBounds 2 none 1 := ⟨(gwt_1 13 rfl rfl), (gwt_9 179 rfl rfl), ⟨nh_X14.1, nh_X14.2, pd_18⟩, by decide⟩
set_option maxRecDepth 100000 in
theorem i_X14_inBounds : iok yX14_inBounds := ⟨(gwt_9 178 rfl rfl), (gwt_0 189 rfl rfl)⟩
set_option maxRecDepth 100000 in
theorem m_X14_out_ : mok yX14_out_ cX14_out_ 3 none 2 := ⟨(gwt_1 13 rfl rfl), (gwt_9 183 rfl rfl), ⟨nh_X14.1, nh_X14.2, pd_13⟩, by decide⟩
set_option maxRecDepth 100000 in
theorem i_X14_out_ : iok yX14_out_ := ⟨(gwt_9 182 rfl rfl), (gwt_0 190 rfl rfl)⟩
set_option maxRecDepth 100000 in
theorem m_X14_out : mok yX14_out cX14_out 2 none 1 := ⟨(gwt_1 13 rfl rfl), (gwt_9 187 rfl rfl), ⟨nh_X14.1, nh_X14.2, pd_18⟩, by decide⟩
set_option maxRecDepth 100000 in
theorem i_X14_out : iok yX14_out := ⟨(gwt_9 186 rfl rfl), (gwt_0 191 rfl rfl)⟩
set_option maxRecDepth 100000 in
theorem m_X14_four : mok yX14_four cX14_four 3 none 1 := ⟨(gwt_1 13 rfl rfl), (gwt_9 192 rfl rfl), ⟨nh_X14.1, nh_X14.2, pd_18⟩, by decide⟩
set_option maxRecDepth 100000 in
theorem i_X14_four : iok yX14_four := ⟨(gwt_9 191 rfl rfl), (gwt_0 192 rfl rfl)⟩
set_option maxRecDepth 100000 in
theorem m_X14_done : mok yX14_done cX14_done 1 none 0 := ⟨(gwt_1 13 rfl rfl), (gwt_9 196 rfl rfl), ⟨nh_X14.1, nh_X14.2, pd_11⟩, by decide⟩
set_option maxRecDepth 100000 in
theorem i_X14_done : iok yX14_done := ⟨(gwt_9 195 rfl rfl), (gwt_0 193 rfl rfl)⟩
set_option maxRecDepth 100000 in
theorem m_X14_goIf : mok yX14_goIf cX14_goIf 3 none 2 := ⟨(gwt_1 13 rfl rfl), (gwt_9 200 rfl rfl), ⟨nh_X14.1, nh_X14.2, pd_13⟩, by decide⟩
set_option maxRecDepth 100000 in
theorem i_X14_goIf : iok yX14_goIf := ⟨(gwt_9 199 rfl rfl), (gwt_0 194 rfl rfl)⟩
set_option maxRecDepth 100000 in
theorem m_X14_move : mok yX14_move cX14_move 3 none 2 := ⟨(gwt_1 13 rfl rfl), (gwt_9 204 rfl rfl), ⟨nh_X14.1, nh_X14.2, pd_13⟩, by decide⟩
set_option maxRecDepth 100000 in
theorem i_X14_move : iok yX14_move := ⟨(gwt_9 203 rfl rfl), (gwt_0 195 rfl rfl)⟩
set_option maxRecDepth 100000 in
theorem m_X14_byNumber : mok yX14_byNumber cX14_byNumber 4 none 3 := ⟨(gwt_1 13 rfl rfl), (gwt_9 209 rfl rfl), ⟨nh_X14.1, nh_X14.2, pd_6⟩, by decide⟩
set_option maxRecDepth 100000 in
theorem i_X14_byNumber : iok yX14_byNumber := ⟨(gwt_9 208 rfl rfl), (gwt_0 196 rfl rfl)⟩
set_option maxRecDepth 100000 in
theorem m_X14_isByte : mok yX14_isByte cX14_isByte 3 none 2 := ⟨(gwt_1 13 rfl rfl), (gwt_9 214 rfl rfl), ⟨nh_X14.1, nh_X14.2, pd_13⟩, by decide⟩
set_option maxRecDepth 100000 in
theorem i_X14_isByte : iok yX14_isByte := ⟨(gwt_9 213 rfl rfl), (gwt_0 197 rfl rfl)⟩
set_option maxRecDepth 100000 in
theorem m_X14_on : mok yX14_on cX14_on 1 none 0 := ⟨(gwt_1 13 rfl rfl), (gwt_9 218 rfl rfl), ⟨nh_X14.1, nh_X14.2, pd_11⟩, by decide⟩
set_option maxRecDepth 100000 in
theorem i_X14_on : iok yX14_on := ⟨(gwt_9 217 rfl rfl), (gwt_0 198 rfl rfl)⟩
set_option maxRecDepth 100000 in
theorem m_X14_inSet : mok yX14_inSet cX14_inSet 3 none 2 := ⟨(gwt_1 13 rfl rfl), (gwt_9 222 rfl rfl), ⟨nh_X14.1, nh_X14.2, pd_13⟩, by decide⟩
set_option maxRecDepth 100000 in
theorem i_X14_inSet : iok yX14_inSet := ⟨(gwt_9 221 rfl rfl), (gwt_0 199 rfl rfl)⟩
set_option maxRecDepth 100000 in
theorem m_X14_load : mok yX14_load cX14_load 3 none 2 := ⟨(gwt_1 13 rfl rfl), (gwt_9 227 rfl rfl), ⟨nh_X14.1, nh_X14.2, pd_13⟩, by decide⟩
set_option maxRecDepth 100000 in
theorem i_X14_load : iok yX14_load := ⟨(gwt_9 226 rfl rfl), (gwt_0 200 rfl rfl)⟩
set_option maxRecDepth 100000 in
theorem m_X14_go : mok yX14_go cX14_go 2 none 1 := ⟨(gwt_1 13 rfl rfl), (gwt_9 231 rfl rfl), ⟨nh_X14.1, nh_X14.2, pd_18⟩, by decide⟩
set_option maxRecDepth 100000 in
theorem i_X14_go : iok yX14_go := ⟨(gwt_9 230 rfl rfl), (gwt_0 201 rfl rfl)⟩
set_option maxRecDepth 100000 in
theorem m_X14_entryNumber : mok yX14_entryNumber cX14_entryNumber 2 none 1 := ⟨(gwt_1 13 rfl rfl), (gwt_9 235 rfl rfl), ⟨nh_X14.1, nh_X14.2, pd_18⟩, by decide⟩
set_option maxRecDepth 100000 in
theorem i_X14_entryNumber : iok yX14_entryNumber := ⟨(gwt_9 234 rfl rfl), (gwt_0 202 rfl rfl)⟩
set_option maxRecDepth 100000 in
theorem m_X14_keep : mok yX14_keep cX14_keep 3 none 2 := ⟨(gwt_1 13 rfl rfl), (gwt_10 0 rfl rfl), ⟨nh_X14.1, nh_X14.2, pd_13⟩, by decide⟩
set_option maxRecDepth 100000 in
theorem i_X14_keep : iok yX14_keep := ⟨(gwt_9 239 rfl rfl), (gwt_0 203 rfl rfl)⟩
set_option maxRecDepth 100000 in
theorem m_X14_oneMore : mok yX14_oneMore cX14_oneMore 3 none 2 := ⟨(gwt_1 13 rfl rfl), (gwt_10 4 rfl rfl), ⟨nh_X14.1, nh_X14.2, pd_13⟩, by decide⟩
set_option maxRecDepth 100000 in
theorem i_X14_oneMore : iok yX14_oneMore := ⟨(gwt_10 3 rfl rfl), (gwt_0 204 rfl rfl)⟩
set_option maxRecDepth 100000 in
theorem m_X14_labelOver : mok yX14_labelOver cX14_labelOver 1 (some .int) 0 := ⟨(gwt_1 13 rfl rfl), (gwt_10 8 rfl rfl), ⟨nh_X14.1, nh_X14.2, pd_20⟩, by decide⟩
set_option maxRecDepth 100000 in
theorem i_X14_labelOver : iok yX14_labelOver := ⟨(gwt_10 7 rfl rfl), (gwt_0 205 rfl rfl)⟩
set_option maxRecDepth 100000 in
theorem m_X14_translateMore : mok yX14_translateMore cX14_translateMore 4 none 3 := ⟨(gwt_1 13 rfl rfl), (gwt_10 13 rfl rfl), ⟨nh_X14.1, nh_X14.2, pd_6⟩, by decide⟩
set_option maxRecDepth 100000 in
theorem i_X14_translateMore : iok yX14_translateMore := ⟨(gwt_10 12 rfl rfl), (gwt_0 206 rfl rfl)⟩
set_option maxRecDepth 100000 in
theorem m_X14_oneLess : mok yX14_oneLess cX14_oneLess 1 none 0 := ⟨(gwt_1 13 rfl rfl), (gwt_10 17 rfl rfl), ⟨nh_X14.1, nh_X14.2, pd_11⟩, by decide⟩
set_option maxRecDepth 100000 in
theorem i_X14_oneLess : iok yX14_oneLess := ⟨(gwt_10 16 rfl rfl), (gwt_0 207 rfl rfl)⟩
set_option maxRecDepth 100000 in
theorem m_X14_up : mok yX14_up cX14_up 1 none 0 := ⟨(gwt_1 13 rfl rfl), (gwt_10 21 rfl rfl), ⟨nh_X14.1, nh_X14.2, pd_11⟩, by decide⟩
set_option maxRecDepth 100000 in
theorem i_X14_up : iok yX14_up := ⟨(gwt_10 20 rfl rfl), (gwt_0 208 rfl rfl)⟩
set_option maxRecDepth 100000 in
theorem m_X14_goByNumber : mok yX14_goByNumber cX14_goByNumber 1 none 0 := ⟨(gwt_1 13 rfl rfl), (gwt_10 25 rfl rfl), ⟨nh_X14.1, nh_X14.2, pd_11⟩, by decide⟩
set_option maxRecDepth 100000 in
theorem i_X14_goByNumber : iok yX14_goByNumber := ⟨(gwt_10 24 rfl rfl), (gwt_0 209 rfl rfl)⟩
set_option maxRecDepth 100000 in
theorem m_X14_note : mok yX14_note cX14_note 2 none 1 := ⟨(gwt_1 13 rfl rfl), (gwt_10 30 rfl rfl), ⟨nh_X14.1, nh_X14.2, pd_18⟩, by decide⟩
set_option maxRecDepth 100000 in
theorem i_X14_note : iok yX14_note := ⟨(gwt_10 29 rfl rfl), (gwt_0 210 rfl rfl)⟩
set_option maxRecDepth 100000 in
theorem m_X14_moveNumber : mok yX14_moveNumber cX14_moveNumber 3 none 2 := ⟨(gwt_1 13 rfl rfl), (gwt_10 34 rfl rfl), ⟨nh_X14.1, nh_X14.2, pd_13⟩, by decide⟩
set_option maxRecDepth 100000 in
theorem i_X14_moveNumber : iok yX14_moveNumber := ⟨(gwt_10 33 rfl rfl), (gwt_0 211 rfl rfl)⟩
set_option maxRecDepth 100000 in
theorem m_X14_ends : mok yX14_ends cX14_ends 1 none 0 := ⟨(gwt_1 13 rfl rfl), (gwt_10 39 rfl rfl), ⟨nh_X14.1, nh_X14.2, pd_11⟩, by decide⟩
set_option maxRecDepth 100000 in
theorem i_X14_ends : iok yX14_ends := ⟨(gwt_10 38 rfl rfl), (gwt_0 212 rfl rfl)⟩
set_option maxRecDepth 100000 in
theorem m_X14_labelNo : mok yX14_labelNo cX14_labelNo 1 (some .int) 0 := ⟨(gwt_1 13 rfl rfl), (gwt_10 43 rfl rfl), ⟨nh_X14.1, nh_X14.2, pd_20⟩, by decide⟩
set_option maxRecDepth 100000 in
theorem i_X14_labelNo : iok yX14_labelNo := ⟨(gwt_10 42 rfl rfl), (gwt_0 213 rfl rfl)⟩
set_option maxRecDepth 100000 in
theorem m_X14_stops : mok yX14_stops cX14_stops 2 none 1 := ⟨(gwt_1 13 rfl rfl), (gwt_10 47 rfl rfl), ⟨nh_X14.1, nh_X14.2, pd_18⟩, by decide⟩
set_option maxRecDepth 100000 in
theorem i_X14_stops : iok yX14_stops := ⟨(gwt_10 46 rfl rfl), (gwt_0 214 rfl rfl)⟩
set_option maxRecDepth 100000 in
theorem m_X14_lay : mok yX14_lay cX14_lay 6 none 0 := ⟨(gwt_1 13 rfl rfl), (gwt_10 51 rfl rfl), ⟨nh_X14.1, nh_X14.2, pd_11⟩, by decide⟩
set_option maxRecDepth 100000 in
theorem i_X14_lay : iok yX14_lay := ⟨(gwt_10 50 rfl rfl), (gwt_0 215 rfl rfl)⟩
set_option maxRecDepth 100000 in
theorem m_X14_sizeOf : mok yX14_sizeOf cX14_sizeOf 2 (some .int) 1 := ⟨(gwt_1 13 rfl rfl), (gwt_10 55 rfl rfl), ⟨nh_X14.1, nh_X14.2, pd_2⟩, by decide⟩
set_option maxRecDepth 100000 in
theorem i_X14_sizeOf : iok yX14_sizeOf := ⟨(gwt_10 54 rfl rfl), (gwt_0 216 rfl rfl)⟩
set_option maxRecDepth 100000 in
theorem m_X14_write : mok yX14_write cX14_write 7 none 0 := ⟨(gwt_1 13 rfl rfl), (gwt_10 59 rfl rfl), ⟨nh_X14.1, nh_X14.2, pd_11⟩, by decide⟩
set_option maxRecDepth 100000 in
theorem i_X14_write : iok yX14_write := ⟨(gwt_10 58 rfl rfl), (gwt_0 217 rfl rfl)⟩
set_option maxRecDepth 100000 in
theorem m_X14_fault_ : mok yX14_fault_ cX14_fault_ 2 (some .int) 1 := ⟨(gwt_1 13 rfl rfl), (gwt_10 63 rfl rfl), ⟨nh_X14.1, nh_X14.2, pd_2⟩, by decide⟩
set_option maxRecDepth 100000 in
theorem i_X14_fault_ : iok yX14_fault_ := ⟨(gwt_10 61 rfl rfl), (gwt_10 62 rfl rfl)⟩
set_option maxRecDepth 100000 in
theorem m_X14_count : mok yX14_count cX14_count 2 (some .int) 1 := ⟨(gwt_1 13 rfl rfl), (gwt_10 67 rfl rfl), ⟨nh_X14.1, nh_X14.2, pd_2⟩, by decide⟩
set_option maxRecDepth 100000 in
theorem i_X14_count : iok yX14_count := ⟨(gwt_10 65 rfl rfl), (gwt_10 66 rfl rfl)⟩
set_option maxRecDepth 100000 in
theorem m_X14_rule : mok yX14_rule cX14_rule 3 (some .int) 2 := ⟨(gwt_1 13 rfl rfl), (gwt_10 71 rfl rfl), ⟨nh_X14.1, nh_X14.2, pd_7⟩, by decide⟩
set_option maxRecDepth 100000 in
theorem i_X14_rule : iok yX14_rule := ⟨(gwt_10 69 rfl rfl), (gwt_10 70 rfl rfl)⟩
set_option maxRecDepth 100000 in
theorem m_X14_program : mok yX14_program cX14_program 3 (some .int) 2 := ⟨(gwt_1 13 rfl rfl), (gwt_10 75 rfl rfl), ⟨nh_X14.1, nh_X14.2, pd_7⟩, by decide⟩
set_option maxRecDepth 100000 in
theorem i_X14_program : iok yX14_program := ⟨(gwt_10 73 rfl rfl), (gwt_10 74 rfl rfl)⟩
set_option maxRecDepth 100000 in
theorem m_X14_set : mok yX14_set cX14_set 3 (some .int) 2 := ⟨(gwt_1 13 rfl rfl), (gwt_10 79 rfl rfl), ⟨nh_X14.1, nh_X14.2, pd_7⟩, by decide⟩
set_option maxRecDepth 100000 in
theorem i_X14_set : iok yX14_set := ⟨(gwt_10 77 rfl rfl), (gwt_10 78 rfl rfl)⟩
set_option maxRecDepth 100000 in
theorem m_X14_image_ : mok yX14_image_ cX14_image_ 2 (some .int) 1 := ⟨(gwt_1 13 rfl rfl), (gwt_10 83 rfl rfl), ⟨nh_X14.1, nh_X14.2, pd_2⟩, by decide⟩
set_option maxRecDepth 100000 in
theorem i_X14_image_ : iok yX14_image_ := ⟨(gwt_10 81 rfl rfl), (gwt_10 82 rfl rfl)⟩
set_option maxRecDepth 100000 in
theorem m_X14_place : mok yX14_place cX14_place 2 (some .int) 0 := ⟨(gwt_1 13 rfl rfl), (gwt_10 87 rfl rfl), ⟨nh_X14.1, nh_X14.2, pd_20⟩, by decide⟩
set_option maxRecDepth 100000 in
theorem i_X14_place : iok yX14_place := ⟨(gwt_10 85 rfl rfl), (gwt_10 86 rfl rfl)⟩
set_option maxRecDepth 100000 in
theorem m_X14_begin : mok yX14_begin cX14_begin 2 (some .boolean) 1 := ⟨(gwt_1 13 rfl rfl), (gwt_10 91 rfl rfl), ⟨nh_X14.1, nh_X14.2, pd_10⟩, by decide⟩
set_option maxRecDepth 100000 in
theorem i_X14_begin : iok yX14_begin := ⟨(gwt_10 89 rfl rfl), (gwt_10 90 rfl rfl)⟩
set_option maxRecDepth 100000 in
theorem m_X14_run : mok yX14_run cX14_run 3 (some .int) 1 := ⟨(gwt_1 13 rfl rfl), (gwt_10 95 rfl rfl), ⟨nh_X14.1, nh_X14.2, pd_2⟩, by decide⟩
set_option maxRecDepth 100000 in
theorem i_X14_run : iok yX14_run := ⟨(gwt_10 93 rfl rfl), (gwt_10 94 rfl rfl)⟩
set_option maxRecDepth 100000 in
theorem m_X14_steps : mok yX14_steps cX14_steps 3 (some .boolean) 0 := ⟨(gwt_1 13 rfl rfl), (gwt_10 100 rfl rfl), ⟨nh_X14.1, nh_X14.2, pd_23⟩, by decide⟩
set_option maxRecDepth 100000 in
theorem i_X14_steps : iok yX14_steps := ⟨(gwt_10 99 rfl rfl), (gwt_0 218 rfl rfl)⟩
set_option maxRecDepth 100000 in
theorem m_X14_decode : mok yX14_decode cX14_decode 3 (some .boolean) 1 := ⟨(gwt_1 13 rfl rfl), (gwt_10 104 rfl rfl), ⟨nh_X14.1, nh_X14.2, pd_10⟩, by decide⟩
set_option maxRecDepth 100000 in
theorem i_X14_decode : iok yX14_decode := ⟨(gwt_10 103 rfl rfl), (gwt_0 219 rfl rfl)⟩
set_option maxRecDepth 100000 in
theorem m_X14_read : mok yX14_read cX14_read 2 (some .int) 0 := ⟨(gwt_1 13 rfl rfl), (gwt_10 108 rfl rfl), ⟨nh_X14.1, nh_X14.2, pd_20⟩, by decide⟩
set_option maxRecDepth 100000 in
theorem i_X14_read : iok yX14_read := ⟨(gwt_10 107 rfl rfl), (gwt_0 220 rfl rfl)⟩
set_option maxRecDepth 100000 in
theorem m_X14_byteAt : mok yX14_byteAt cX14_byteAt 2 (some .int) 1 := ⟨(gwt_1 13 rfl rfl), (gwt_10 112 rfl rfl), ⟨nh_X14.1, nh_X14.2, pd_2⟩, by decide⟩
set_option maxRecDepth 100000 in
theorem i_X14_byteAt : iok yX14_byteAt := ⟨(gwt_10 111 rfl rfl), (gwt_0 221 rfl rfl)⟩
set_option maxRecDepth 100000 in
theorem m_X14_decodeLong : mok yX14_decodeLong cX14_decodeLong 3 none 0 := ⟨(gwt_1 13 rfl rfl), (gwt_10 116 rfl rfl), ⟨nh_X14.1, nh_X14.2, pd_11⟩, by decide⟩
set_option maxRecDepth 100000 in
theorem i_X14_decodeLong : iok yX14_decodeLong := ⟨(gwt_10 115 rfl rfl), (gwt_0 222 rfl rfl)⟩
set_option maxRecDepth 100000 in
theorem m_X14_readFour : mok yX14_readFour cX14_readFour 3 (some .int) 0 := ⟨(gwt_1 13 rfl rfl), (gwt_10 120 rfl rfl), ⟨nh_X14.1, nh_X14.2, pd_20⟩, by decide⟩
set_option maxRecDepth 100000 in
theorem i_X14_readFour : iok yX14_readFour := ⟨(gwt_10 119 rfl rfl), (gwt_0 223 rfl rfl)⟩
set_option maxRecDepth 100000 in
theorem m_X14_number : mok yX14_number cX14_number 2 none 1 := ⟨(gwt_1 13 rfl rfl), (gwt_10 124 rfl rfl), ⟨nh_X14.1, nh_X14.2, pd_18⟩, by decide⟩
set_option maxRecDepth 100000 in
theorem i_X14_number : iok yX14_number := ⟨(gwt_10 123 rfl rfl), (gwt_0 224 rfl rfl)⟩
set_option maxRecDepth 100000 in
theorem m_X14_is : mok yX14_is cX14_is 3 none 2 := ⟨(gwt_1 13 rfl rfl), (gwt_10 128 rfl rfl), ⟨nh_X14.1, nh_X14.2, pd_13⟩, by decide⟩
set_option maxRecDepth 100000 in
theorem i_X14_is : iok yX14_is := ⟨(gwt_10 127 rfl rfl), (gwt_0 225 rfl rfl)⟩
set_option maxRecDepth 100000 in
theorem m_X14_isRegister : mok yX14_isRegister cX14_isRegister 2 none 1 := ⟨(gwt_1 13 rfl rfl), (gwt_10 132 rfl rfl), ⟨nh_X14.1, nh_X14.2, pd_18⟩, by decide⟩
set_option maxRecDepth 100000 in
theorem i_X14_isRegister : iok yX14_isRegister := ⟨(gwt_10 131 rfl rfl), (gwt_0 226 rfl rfl)⟩
set_option maxRecDepth 100000 in
theorem m_X14_readM : mok yX14_readM cX14_readM 5 none 0 := ⟨(gwt_1 13 rfl rfl), (gwt_10 136 rfl rfl), ⟨nh_X14.1, nh_X14.2, pd_11⟩, by decide⟩
set_option maxRecDepth 100000 in
theorem i_X14_readM : iok yX14_readM := ⟨(gwt_10 135 rfl rfl), (gwt_0 227 rfl rfl)⟩
set_option maxRecDepth 100000 in
theorem m_X14_readOne : mok yX14_readOne cX14_readOne 1 (some .int) 0 := ⟨(gwt_1 13 rfl rfl), (gwt_10 140 rfl rfl), ⟨nh_X14.1, nh_X14.2, pd_20⟩, by decide⟩
set_option maxRecDepth 100000 in
theorem i_X14_readOne : iok yX14_readOne := ⟨(gwt_10 139 rfl rfl), (gwt_0 228 rfl rfl)⟩
set_option maxRecDepth 100000 in
theorem m_X14_decodeSum : mok yX14_decodeSum cX14_decodeSum 2 none 1 := ⟨(gwt_1 13 rfl rfl), (gwt_10 144 rfl rfl), ⟨nh_X14.1, nh_X14.2, pd_18⟩, by decide⟩
set_option maxRecDepth 100000 in
theorem i_X14_decodeSum : iok yX14_decodeSum := ⟨(gwt_10 143 rfl rfl), (gwt_0 229 rfl rfl)⟩
set_option maxRecDepth 100000 in
theorem m_X14_decodeShort : mok yX14_decodeShort cX14_decodeShort 3 none 1 := ⟨(gwt_1 13 rfl rfl), (gwt_10 148 rfl rfl), ⟨nh_X14.1, nh_X14.2, pd_18⟩, by decide⟩
set_option maxRecDepth 100000 in
theorem i_X14_decodeShort : iok yX14_decodeShort := ⟨(gwt_10 147 rfl rfl), (gwt_0 230 rfl rfl)⟩
set_option maxRecDepth 100000 in
theorem m_X14_decodeMoves : mok yX14_decodeMoves cX14_decodeMoves 2 none 1 := ⟨(gwt_1 13 rfl rfl), (gwt_10 152 rfl rfl), ⟨nh_X14.1, nh_X14.2, pd_18⟩, by decide⟩
set_option maxRecDepth 100000 in
theorem i_X14_decodeMoves : iok yX14_decodeMoves := ⟨(gwt_10 151 rfl rfl), (gwt_0 231 rfl rfl)⟩
set_option maxRecDepth 100000 in
theorem m_X14_decodeRest : mok yX14_decodeRest cX14_decodeRest 2 none 1 := ⟨(gwt_1 13 rfl rfl), (gwt_10 156 rfl rfl), ⟨nh_X14.1, nh_X14.2, pd_18⟩, by decide⟩
set_option maxRecDepth 100000 in
theorem i_X14_decodeRest : iok yX14_decodeRest := ⟨(gwt_10 155 rfl rfl), (gwt_0 232 rfl rfl)⟩
set_option maxRecDepth 100000 in
theorem m_X14_decodeByThree : mok yX14_decodeByThree cX14_decodeByThree 3 none 1 := ⟨(gwt_1 13 rfl rfl), (gwt_10 160 rfl rfl), ⟨nh_X14.1, nh_X14.2, pd_18⟩, by decide⟩
set_option maxRecDepth 100000 in
theorem i_X14_decodeByThree : iok yX14_decodeByThree := ⟨(gwt_10 159 rfl rfl), (gwt_0 233 rfl rfl)⟩
set_option maxRecDepth 100000 in
theorem m_X14_doesIt : mok yX14_doesIt cX14_doesIt 5 (some .int) 1 := ⟨(gwt_1 13 rfl rfl), (gwt_10 164 rfl rfl), ⟨nh_X14.1, nh_X14.2, pd_2⟩, by decide⟩
set_option maxRecDepth 100000 in
theorem i_X14_doesIt : iok yX14_doesIt := ⟨(gwt_10 163 rfl rfl), (gwt_0 234 rfl rfl)⟩
set_option maxRecDepth 100000 in
theorem m_X14_isThere : mok yX14_isThere cX14_isThere 1 (some .boolean) 0 := ⟨(gwt_1 13 rfl rfl), (gwt_10 168 rfl rfl), ⟨nh_X14.1, nh_X14.2, pd_23⟩, by decide⟩
set_option maxRecDepth 100000 in
theorem i_X14_isThere : iok yX14_isThere := ⟨(gwt_10 167 rfl rfl), (gwt_0 235 rfl rfl)⟩
set_option maxRecDepth 100000 in
theorem m_X14_address : mok yX14_address cX14_address 2 (some .int) 0 := ⟨(gwt_1 13 rfl rfl), (gwt_10 172 rfl rfl), ⟨nh_X14.1, nh_X14.2, pd_20⟩, by decide⟩
set_option maxRecDepth 100000 in
theorem i_X14_address : iok yX14_address := ⟨(gwt_10 171 rfl rfl), (gwt_0 236 rfl rfl)⟩
set_option maxRecDepth 100000 in
theorem m_X14_isData : mok yX14_isData cX14_isData 2 (some .boolean) 2 := ⟨(gwt_1 13 rfl rfl), (gwt_10 175 rfl rfl), ⟨nh_X14.1, nh_X14.2, pd_17⟩, by decide⟩
set_option maxRecDepth 100000 in
theorem s_X14_isData : Cond.static yX14_isData ∈ gw := (gwt_10 174 rfl rfl)
set_option maxRecDepth 100000 in
theorem m_X14_valueOfM : mok yX14_valueOfM cX14_valueOfM 1 (some .int) 0 := ⟨(gwt_1 13 rfl rfl), (gwt_10 180 rfl rfl), ⟨nh_X14.1, nh_X14.2, pd_20⟩, by decide⟩
set_option maxRecDepth 100000 in
theorem i_X14_valueOfM : iok yX14_valueOfM := ⟨(gwt_10 179 rfl rfl), (gwt_0 237 rfl rfl)⟩
set_option maxRecDepth 100000 in
theorem m_X14_byteOf : mok yX14_byteOf cX14_byteOf 2 (some .int) 1 := ⟨(gwt_1 13 rfl rfl), (gwt_10 184 rfl rfl), ⟨nh_X14.1, nh_X14.2, pd_2⟩, by decide⟩
set_option maxRecDepth 100000 in
theorem i_X14_byteOf : iok yX14_byteOf := ⟨(gwt_10 183 rfl rfl), (gwt_0 238 rfl rfl)⟩
set_option maxRecDepth 100000 in
theorem m_X14_dataAt : mok yX14_dataAt cX14_dataAt 4 (some .int) 1 := ⟨(gwt_1 13 rfl rfl), (gwt_10 188 rfl rfl), ⟨nh_X14.1, nh_X14.2, pd_2⟩, by decide⟩
set_option maxRecDepth 100000 in
theorem i_X14_dataAt : iok yX14_dataAt := ⟨(gwt_10 187 rfl rfl), (gwt_0 239 rfl rfl)⟩
set_option maxRecDepth 100000 in
theorem m_X14_summed : mok yX14_summed cX14_summed 5 (some .int) 3 := ⟨(gwt_1 13 rfl rfl), (gwt_10 192 rfl rfl), ⟨nh_X14.1, nh_X14.2, pd_9⟩, by decide⟩
set_option maxRecDepth 100000 in
theorem i_X14_summed : iok yX14_summed := ⟨(gwt_10 191 rfl rfl), (gwt_0 240 rfl rfl)⟩
set_option maxRecDepth 100000 in
theorem m_X14_isSet : mok yX14_isSet cX14_isSet 2 (some .boolean) 1 := ⟨(gwt_1 13 rfl rfl), (gwt_10 196 rfl rfl), ⟨nh_X14.1, nh_X14.2, pd_10⟩, by decide⟩
set_option maxRecDepth 100000 in
theorem i_X14_isSet : iok yX14_isSet := ⟨(gwt_10 195 rfl rfl), (gwt_0 241 rfl rfl)⟩
set_option maxRecDepth 100000 in
theorem m_X14_added : mok yX14_added cX14_added 6 (some .int) 3 := ⟨(gwt_1 13 rfl rfl), (gwt_10 200 rfl rfl), ⟨nh_X14.1, nh_X14.2, pd_9⟩, by decide⟩
set_option maxRecDepth 100000 in
theorem i_X14_added : iok yX14_added := ⟨(gwt_10 199 rfl rfl), (gwt_0 242 rfl rfl)⟩
set_option maxRecDepth 100000 in
theorem m_X14_plain : mok yX14_plain cX14_plain 1 (some .long) 1 := ⟨(gwt_1 13 rfl rfl), (gwt_10 203 rfl rfl), ⟨nh_X14.1, nh_X14.2, pd_22⟩, by decide⟩
set_option maxRecDepth 100000 in
theorem s_X14_plain : Cond.static yX14_plain ∈ gw := (gwt_10 202 rfl rfl)
set_option maxRecDepth 100000 in
theorem m_X14_flag : mok yX14_flag cX14_flag 3 none 2 := ⟨(gwt_1 13 rfl rfl), (gwt_10 208 rfl rfl), ⟨nh_X14.1, nh_X14.2, pd_12⟩, by decide⟩
set_option maxRecDepth 100000 in
theorem i_X14_flag : iok yX14_flag := ⟨(gwt_10 207 rfl rfl), (gwt_0 243 rfl rfl)⟩
set_option maxRecDepth 100000 in
theorem m_X14_byResult : mok yX14_byResult cX14_byResult 2 none 1 := ⟨(gwt_1 13 rfl rfl), (gwt_10 212 rfl rfl), ⟨nh_X14.1, nh_X14.2, pd_18⟩, by decide⟩
set_option maxRecDepth 100000 in
theorem i_X14_byResult : iok yX14_byResult := ⟨(gwt_10 211 rfl rfl), (gwt_0 244 rfl rfl)⟩
set_option maxRecDepth 100000 in
theorem m_X14_bits : mok yX14_bits cX14_bits 2 (some .int) 1 := ⟨(gwt_1 13 rfl rfl), (gwt_10 216 rfl rfl), ⟨nh_X14.1, nh_X14.2, pd_2⟩, by decide⟩
set_option maxRecDepth 100000 in
theorem i_X14_bits : iok yX14_bits := ⟨(gwt_10 215 rfl rfl), (gwt_0 245 rfl rfl)⟩
set_option maxRecDepth 100000 in
theorem m_X14_taken : mok yX14_taken cX14_taken 6 (some .int) 3 := ⟨(gwt_1 13 rfl rfl), (gwt_10 220 rfl rfl), ⟨nh_X14.1, nh_X14.2, pd_9⟩, by decide⟩
set_option maxRecDepth 100000 in
theorem i_X14_taken : iok yX14_taken := ⟨(gwt_10 219 rfl rfl), (gwt_0 246 rfl rfl)⟩
set_option maxRecDepth 100000 in
theorem m_X14_toM : mok yX14_toM cX14_toM 2 none 1 := ⟨(gwt_1 13 rfl rfl), (gwt_10 224 rfl rfl), ⟨nh_X14.1, nh_X14.2, pd_18⟩, by decide⟩
set_option maxRecDepth 100000 in
theorem i_X14_toM : iok yX14_toM := ⟨(gwt_10 223 rfl rfl), (gwt_0 247 rfl rfl)⟩
set_option maxRecDepth 100000 in
theorem m_X14_byteTo : mok yX14_byteTo cX14_byteTo 3 none 2 := ⟨(gwt_1 13 rfl rfl), (gwt_10 228 rfl rfl), ⟨nh_X14.1, nh_X14.2, pd_13⟩, by decide⟩
set_option maxRecDepth 100000 in
theorem i_X14_byteTo : iok yX14_byteTo := ⟨(gwt_10 227 rfl rfl), (gwt_0 248 rfl rfl)⟩
set_option maxRecDepth 100000 in
theorem m_X14_dataPut : mok yX14_dataPut cX14_dataPut 4 none 2 := ⟨(gwt_1 13 rfl rfl), (gwt_10 233 rfl rfl), ⟨nh_X14.1, nh_X14.2, pd_13⟩, by decide⟩
set_option maxRecDepth 100000 in
theorem i_X14_dataPut : iok yX14_dataPut := ⟨(gwt_10 232 rfl rfl), (gwt_0 249 rfl rfl)⟩
set_option maxRecDepth 100000 in
theorem m_X14_products : mok yX14_products cX14_products 6 (some .int) 1 := ⟨(gwt_1 13 rfl rfl), (gwt_10 237 rfl rfl), ⟨nh_X14.1, nh_X14.2, pd_2⟩, by decide⟩
set_option maxRecDepth 100000 in
theorem i_X14_products : iok yX14_products := ⟨(gwt_10 236 rfl rfl), (gwt_0 250 rfl rfl)⟩
set_option maxRecDepth 100000 in
theorem m_X14_twoFlags : mok yX14_twoFlags cX14_twoFlags 2 none 1 := ⟨(gwt_1 13 rfl rfl), (gwt_11 1 rfl rfl), ⟨nh_X14.1, nh_X14.2, pd_14⟩, by decide⟩
set_option maxRecDepth 100000 in
theorem i_X14_twoFlags : iok yX14_twoFlags := ⟨(gwt_11 0 rfl rfl), (gwt_0 251 rfl rfl)⟩
set_option maxRecDepth 100000 in
theorem m_J13_divideUnsigned_f86c9 : mok yJ13_divideUnsigned_f86c9 cJ13_divideUnsigned_f86c9 8 (some .long) 2 := ⟨(gwt_1 20 rfl rfl), (gwt_11 4 rfl rfl), ⟨nh_J13.1, nh_J13.2, pd_1⟩, by decide⟩
set_option maxRecDepth 100000 in
theorem s_J13_divideUnsigned_f86c9 : Cond.static yJ13_divideUnsigned_f86c9 ∈ gw := (gwt_11 3 rfl rfl)
set_option maxRecDepth 100000 in
theorem m_J13_remainderUnsigned_f86c9 : mok yJ13_remainderUnsigned_f86c9 cJ13_remainderUnsigned_f86c9 8 (some .long) 2 := ⟨(gwt_1 20 rfl rfl), (gwt_11 8 rfl rfl), ⟨nh_J13.1, nh_J13.2, pd_1⟩, by decide⟩
set_option maxRecDepth 100000 in
theorem s_J13_remainderUnsigned_f86c9 : Cond.static yJ13_remainderUnsigned_f86c9 ∈ gw := (gwt_11 7 rfl rfl)
set_option maxRecDepth 100000 in
theorem m_X14_shifted : mok yX14_shifted cX14_shifted 8 (some .int) 3 := ⟨(gwt_1 13 rfl rfl), (gwt_11 13 rfl rfl), ⟨nh_X14.1, nh_X14.2, pd_9⟩, by decide⟩
set_option maxRecDepth 100000 in
theorem i_X14_shifted : iok yX14_shifted := ⟨(gwt_11 12 rfl rfl), (gwt_0 252 rfl rfl)⟩
set_option maxRecDepth 100000 in
theorem m_X14_holds : mok yX14_holds cX14_holds 3 (some .boolean) 1 := ⟨(gwt_1 13 rfl rfl), (gwt_11 18 rfl rfl), ⟨nh_X14.1, nh_X14.2, pd_10⟩, by decide⟩
set_option maxRecDepth 100000 in
theorem i_X14_holds : iok yX14_holds := ⟨(gwt_11 17 rfl rfl), (gwt_0 253 rfl rfl)⟩
set_option maxRecDepth 100000 in
theorem m_X14_goes : mok yX14_goes cX14_goes 4 (some .int) 2 := ⟨(gwt_1 13 rfl rfl), (gwt_11 22 rfl rfl), ⟨nh_X14.1, nh_X14.2, pd_7⟩, by decide⟩
set_option maxRecDepth 100000 in
theorem i_X14_goes : iok yX14_goes := ⟨(gwt_11 21 rfl rfl), (gwt_0 254 rfl rfl)⟩
set_option maxRecDepth 100000 in
theorem m_X14_pushes : mok yX14_pushes cX14_pushes 3 (some .boolean) 1 := ⟨(gwt_1 13 rfl rfl), (gwt_11 26 rfl rfl), ⟨nh_X14.1, nh_X14.2, pd_10⟩, by decide⟩
set_option maxRecDepth 100000 in
theorem i_X14_pushes : iok yX14_pushes := ⟨(gwt_11 25 rfl rfl), (gwt_0 255 rfl rfl)⟩
set_option maxRecDepth 100000 in
theorem m_X14_get : mok yX14_get cX14_get 2 (some .int) 1 := ⟨(gwt_1 13 rfl rfl), (gwt_11 30 rfl rfl), ⟨nh_X14.1, nh_X14.2, pd_2⟩, by decide⟩
set_option maxRecDepth 100000 in
theorem i_X14_get : iok yX14_get := ⟨(gwt_11 28 rfl rfl), (gwt_11 29 rfl rfl)⟩
set_option maxRecDepth 100000 in
theorem m_X14_put : mok yX14_put cX14_put 3 (some .boolean) 2 := ⟨(gwt_1 13 rfl rfl), (gwt_11 34 rfl rfl), ⟨nh_X14.1, nh_X14.2, pd_17⟩, by decide⟩
set_option maxRecDepth 100000 in
theorem i_X14_put : iok yX14_put := ⟨(gwt_11 32 rfl rfl), (gwt_11 33 rfl rfl)⟩
set_option maxRecDepth 100000 in
theorem m_X14_store : mok yX14_store cX14_store 3 (some .boolean) 2 := ⟨(gwt_1 13 rfl rfl), (gwt_11 38 rfl rfl), ⟨nh_X14.1, nh_X14.2, pd_17⟩, by decide⟩
set_option maxRecDepth 100000 in
theorem i_X14_store : iok yX14_store := ⟨(gwt_11 36 rfl rfl), (gwt_11 37 rfl rfl)⟩
set_option maxRecDepth 100000 in
theorem m_X14_load_ : mok yX14_load_ cX14_load_ 2 (some .int) 1 := ⟨(gwt_1 13 rfl rfl), (gwt_11 42 rfl rfl), ⟨nh_X14.1, nh_X14.2, pd_2⟩, by decide⟩
set_option maxRecDepth 100000 in
theorem i_X14_load_ : iok yX14_load_ := ⟨(gwt_11 40 rfl rfl), (gwt_11 41 rfl rfl)⟩
set_option maxRecDepth 100000 in
theorem m_X14_check : mok yX14_check cX14_check 3 (some .int) 1 := ⟨(gwt_1 13 rfl rfl), (gwt_11 46 rfl rfl), ⟨nh_X14.1, nh_X14.2, pd_2⟩, by decide⟩
set_option maxRecDepth 100000 in
theorem i_X14_check : iok yX14_check := ⟨(gwt_11 44 rfl rfl), (gwt_11 45 rfl rfl)⟩
set_option maxRecDepth 100000 in
theorem m_X14_checked : mok yX14_checked cX14_checked 6 (some .int) 0 := ⟨(gwt_1 13 rfl rfl), (gwt_11 50 rfl rfl), ⟨nh_X14.1, nh_X14.2, pd_20⟩, by decide⟩
set_option maxRecDepth 100000 in
theorem i_X14_checked : iok yX14_checked := ⟨(gwt_11 49 rfl rfl), (gwt_0 256 rfl rfl)⟩
set_option maxRecDepth 100000 in
theorem m_X14_findGoals : mok yX14_findGoals cX14_findGoals 3 none 0 := ⟨(gwt_1 13 rfl rfl), (gwt_11 54 rfl rfl), ⟨nh_X14.1, nh_X14.2, pd_11⟩, by decide⟩
set_option maxRecDepth 100000 in
theorem i_X14_findGoals : iok yX14_findGoals := ⟨(gwt_11 53 rfl rfl), (gwt_0 257 rfl rfl)⟩
set_option maxRecDepth 100000 in
theorem m_X14_isInstruction : mok yX14_isInstruction cX14_isInstruction 2 (some .boolean) 1 := ⟨(gwt_1 13 rfl rfl), (gwt_11 58 rfl rfl), ⟨nh_X14.1, nh_X14.2, pd_10⟩, by decide⟩
set_option maxRecDepth 100000 in
theorem i_X14_isInstruction : iok yX14_isInstruction := ⟨(gwt_11 57 rfl rfl), (gwt_0 258 rfl rfl)⟩
set_option maxRecDepth 100000 in
theorem m_X14_isJump : mok yX14_isJump cX14_isJump 1 (some .boolean) 0 := ⟨(gwt_1 13 rfl rfl), (gwt_11 62 rfl rfl), ⟨nh_X14.1, nh_X14.2, pd_23⟩, by decide⟩
set_option maxRecDepth 100000 in
theorem i_X14_isJump : iok yX14_isJump := ⟨(gwt_11 61 rfl rfl), (gwt_0 259 rfl rfl)⟩
set_option maxRecDepth 100000 in
theorem m_X14_forget : mok yX14_forget cX14_forget 2 none 0 := ⟨(gwt_1 13 rfl rfl), (gwt_11 66 rfl rfl), ⟨nh_X14.1, nh_X14.2, pd_11⟩, by decide⟩
set_option maxRecDepth 100000 in
theorem i_X14_forget : iok yX14_forget := ⟨(gwt_11 65 rfl rfl), (gwt_0 260 rfl rfl)⟩
set_option maxRecDepth 100000 in
theorem m_X14_reason : mok yX14_reason cX14_reason 4 (some .int) 1 := ⟨(gwt_1 13 rfl rfl), (gwt_11 70 rfl rfl), ⟨nh_X14.1, nh_X14.2, pd_2⟩, by decide⟩
set_option maxRecDepth 100000 in
theorem i_X14_reason : iok yX14_reason := ⟨(gwt_11 69 rfl rfl), (gwt_0 261 rfl rfl)⟩
set_option maxRecDepth 100000 in
theorem m_X14_isConfined : mok yX14_isConfined cX14_isConfined 1 (some .boolean) 0 := ⟨(gwt_1 13 rfl rfl), (gwt_11 74 rfl rfl), ⟨nh_X14.1, nh_X14.2, pd_23⟩, by decide⟩
set_option maxRecDepth 100000 in
theorem i_X14_isConfined : iok yX14_isConfined := ⟨(gwt_11 73 rfl rfl), (gwt_0 262 rfl rfl)⟩
set_option maxRecDepth 100000 in
theorem m_X14_wide : mok yX14_wide cX14_wide 2 (some .boolean) 1 := ⟨(gwt_1 13 rfl rfl), (gwt_11 79 rfl rfl), ⟨nh_X14.1, nh_X14.2, pd_10⟩, by decide⟩
set_option maxRecDepth 100000 in
theorem i_X14_wide : iok yX14_wide := ⟨(gwt_11 78 rfl rfl), (gwt_0 263 rfl rfl)⟩
set_option maxRecDepth 100000 in
theorem m_X14_isAnd : mok yX14_isAnd cX14_isAnd 1 (some .boolean) 0 := ⟨(gwt_1 13 rfl rfl), (gwt_11 83 rfl rfl), ⟨nh_X14.1, nh_X14.2, pd_23⟩, by decide⟩
set_option maxRecDepth 100000 in
theorem i_X14_isAnd : iok yX14_isAnd := ⟨(gwt_11 82 rfl rfl), (gwt_0 264 rfl rfl)⟩
set_option maxRecDepth 100000 in
theorem m_X14_writes : mok yX14_writes cX14_writes 4 (some .boolean) 1 := ⟨(gwt_1 13 rfl rfl), (gwt_11 87 rfl rfl), ⟨nh_X14.1, nh_X14.2, pd_10⟩, by decide⟩
set_option maxRecDepth 100000 in
theorem i_X14_writes : iok yX14_writes := ⟨(gwt_11 86 rfl rfl), (gwt_0 265 rfl rfl)⟩
set_option maxRecDepth 100000 in
theorem m_X14_arm : mok yX14_arm cX14_arm 4 (some .boolean) 2 := ⟨(gwt_1 13 rfl rfl), (gwt_11 91 rfl rfl), ⟨nh_X14.1, nh_X14.2, pd_17⟩, by decide⟩
set_option maxRecDepth 100000 in
theorem i_X14_arm : iok yX14_arm := ⟨(gwt_11 89 rfl rfl), (gwt_11 90 rfl rfl)⟩
set_option maxRecDepth 100000 in
theorem m_X14_match : mok yX14_match cX14_match 5 (some .int) 2 := ⟨(gwt_1 13 rfl rfl), (gwt_11 96 rfl rfl), ⟨nh_X14.1, nh_X14.2, pd_7⟩, by decide⟩
set_option maxRecDepth 100000 in
theorem i_X14_match : iok yX14_match := ⟨(gwt_11 94 rfl rfl), (gwt_11 95 rfl rfl)⟩
set_option maxRecDepth 100000 in
theorem m_X14_runs : mok yX14_runs cX14_runs 6 (some .int) 2 := ⟨(gwt_1 13 rfl rfl), (gwt_11 102 rfl rfl), ⟨nh_X14.1, nh_X14.2, pd_7⟩, by decide⟩
set_option maxRecDepth 100000 in
theorem i_X14_runs : iok yX14_runs := ⟨(gwt_11 101 rfl rfl), (gwt_0 266 rfl rfl)⟩
set_option maxRecDepth 100000 in
theorem m_X14_wants : mok yX14_wants cX14_wants 4 (some .boolean) 1 := ⟨(gwt_1 13 rfl rfl), (gwt_11 106 rfl rfl), ⟨nh_X14.1, nh_X14.2, pd_10⟩, by decide⟩
set_option maxRecDepth 100000 in
theorem i_X14_wants : iok yX14_wants := ⟨(gwt_11 105 rfl rfl), (gwt_0 267 rfl rfl)⟩
set_option maxRecDepth 100000 in
theorem m_X14_isIn : mok yX14_isIn cX14_isIn 3 (some .boolean) 2 := ⟨(gwt_1 13 rfl rfl), (gwt_11 110 rfl rfl), ⟨nh_X14.1, nh_X14.2, pd_17⟩, by decide⟩
set_option maxRecDepth 100000 in
theorem i_X14_isIn : iok yX14_isIn := ⟨(gwt_11 109 rfl rfl), (gwt_0 268 rfl rfl)⟩
set_option maxRecDepth 100000 in
theorem m_X14_back : mok yX14_back cX14_back 1 (some .int) 0 := ⟨(gwt_1 13 rfl rfl), (gwt_11 114 rfl rfl), ⟨nh_X14.1, nh_X14.2, pd_20⟩, by decide⟩
set_option maxRecDepth 100000 in
theorem i_X14_back : iok yX14_back := ⟨(gwt_11 113 rfl rfl), (gwt_0 269 rfl rfl)⟩
set_option maxRecDepth 100000 in
theorem m_X14_fits : mok yX14_fits cX14_fits 2 (some .boolean) 1 := ⟨(gwt_1 13 rfl rfl), (gwt_11 118 rfl rfl), ⟨nh_X14.1, nh_X14.2, pd_10⟩, by decide⟩
set_option maxRecDepth 100000 in
theorem i_X14_fits : iok yX14_fits := ⟨(gwt_11 117 rfl rfl), (gwt_0 270 rfl rfl)⟩
set_option maxRecDepth 100000 in
theorem m_X14_entry : mok yX14_entry cX14_entry 3 none 2 := ⟨(gwt_1 13 rfl rfl), (gwt_11 122 rfl rfl), ⟨nh_X14.1, nh_X14.2, pd_13⟩, by decide⟩
set_option maxRecDepth 100000 in
theorem i_X14_entry : iok yX14_entry := ⟨(gwt_11 121 rfl rfl), (gwt_0 271 rfl rfl)⟩
set_option maxRecDepth 100000 in
theorem m_X14_peak : mok yX14_peak cX14_peak 1 (some .int) 0 := ⟨(gwt_1 13 rfl rfl), (gwt_11 126 rfl rfl), ⟨nh_X14.1, nh_X14.2, pd_20⟩, by decide⟩
set_option maxRecDepth 100000 in
theorem i_X14_peak : iok yX14_peak := ⟨(gwt_11 124 rfl rfl), (gwt_11 125 rfl rfl)⟩
set_option maxRecDepth 100000 in
theorem m_X14_event : mok yX14_event cX14_event 3 (some .int) 2 := ⟨(gwt_1 13 rfl rfl), (gwt_11 130 rfl rfl), ⟨nh_X14.1, nh_X14.2, pd_7⟩, by decide⟩
set_option maxRecDepth 100000 in
theorem i_X14_event : iok yX14_event := ⟨(gwt_11 128 rfl rfl), (gwt_11 129 rfl rfl)⟩
set_option maxRecDepth 100000 in
theorem l_L_9 : lok RL 9 yX11_init := Or.inl (gwt_1 26 rfl rfl)
set_option maxRecDepth 100000 in
theorem l_X11_31 : lok RX11 31 yX10_init := Or.inr ⟨"MatchHouse", (nwt_1 34 rfl rfl)⟩
set_option maxRecDepth 100000 in
theorem l_X11_38 : lok RX11 38 yX9_init := Or.inl (gwt_1 114 rfl rfl)
set_option maxRecDepth 100000 in
theorem l_X11_47 : lok RX11 47 yX5_init := Or.inl (gwt_1 137 rfl rfl)
set_option maxRecDepth 100000 in
theorem l_X11_54 : lok RX11 54 yX8_init := Or.inr ⟨"MatchHouse", (nwt_1 161 rfl rfl)⟩
set_option maxRecDepth 100000 in
theorem l_X11_64 : lok RX11 64 yX3_init := Or.inl (gwt_1 237 rfl rfl)
set_option maxRecDepth 100000 in
theorem l_X11_73 : lok RX11 73 yX1_init := Or.inl (gwt_2 25 rfl rfl)
set_option maxRecDepth 100000 in
theorem l_X11_82 : lok RX11 82 yX7_init := Or.inr ⟨"MatchHouse", (nwt_2 64 rfl rfl)⟩
set_option maxRecDepth 100000 in
theorem l_X7_17 : lok RX7 17 yX0_init := Or.inr ⟨"MatchHouse", (nwt_2 70 rfl rfl)⟩
set_option maxRecDepth 100000 in
theorem l_X7_48 : lok RX7 48 yX4_init := Or.inl (gwt_2 84 rfl rfl)
set_option maxRecDepth 100000 in
theorem l_X11_89 : lok RX11 89 yX2_init := Or.inr ⟨"MatchHouse", (nwt_2 209 rfl rfl)⟩
set_option maxRecDepth 100000 in
theorem l_X2_25 : lok RX2 25 yX4_init := Or.inl (gwt_2 214 rfl rfl)
set_option maxRecDepth 100000 in
theorem l_X11_96 : lok RX11 96 yX6_init := Or.inr ⟨"MatchHouse", (nwt_3 13 rfl rfl)⟩
set_option maxRecDepth 100000 in
theorem l_L_13 : lok RL 13 yX11_feed := Or.inl (gwt_3 87 rfl rfl)
set_option maxRecDepth 100000 in
theorem l_X11_101 : lok RX11 101 yX11_addNumber := Or.inl (gwt_3 91 rfl rfl)
set_option maxRecDepth 100000 in
theorem l_L_18 : lok RL 18 yX11_end := Or.inl (gwt_3 95 rfl rfl)
set_option maxRecDepth 100000 in
theorem l_L_23 : lok RL 23 yX11_grammar := Or.inl (gwt_3 99 rfl rfl)
set_option maxRecDepth 100000 in
theorem l_X11_105 : lok RX11 105 yX9_readText := Or.inl (gwt_3 103 rfl rfl)
set_option maxRecDepth 100000 in
theorem l_X9_29 : lok RX9 29 yX10_clear := Or.inl (gwt_3 107 rfl rfl)
set_option maxRecDepth 100000 in
theorem l_X9_34 : lok RX9 34 yX9_skipBlanks := Or.inl (gwt_3 111 rfl rfl)
set_option maxRecDepth 100000 in
theorem l_X9_37 : lok RX9 37 yX9_readRule := Or.inl (gwt_3 115 rfl rfl)
set_option maxRecDepth 100000 in
theorem l_X9_45 : lok RX9 45 yX9_readName := Or.inl (gwt_3 119 rfl rfl)
set_option maxRecDepth 100000 in
theorem l_X9_75 : lok RX9 75 yX9_sign := Or.inl (gwt_3 123 rfl rfl)
set_option maxRecDepth 100000 in
theorem l_X9_78 : lok RX9 78 yX9_startsName := Or.inl (gwt_3 127 rfl rfl)
set_option maxRecDepth 100000 in
theorem l_X9_41 : lok RX9 41 yX9_refuse := Or.inl (gwt_3 130 rfl rfl)
set_option maxRecDepth 100000 in
theorem l_X9_56 : lok RX9 56 yX9_takeSign := Or.inl (gwt_3 134 rfl rfl)
set_option maxRecDepth 100000 in
theorem l_X9_62 : lok RX9 62 yX9_readChoice := Or.inl (gwt_3 138 rfl rfl)
set_option maxRecDepth 100000 in
theorem l_X9_81 : lok RX9 81 yX9_readSequence := Or.inl (gwt_3 142 rfl rfl)
set_option maxRecDepth 100000 in
theorem l_X9_91 : lok RX9 91 yX9_startsPrefix := Or.inl (gwt_3 146 rfl rfl)
set_option maxRecDepth 100000 in
theorem l_X9_94 : lok RX9 94 yX9_readPrefix := Or.inl (gwt_3 149 rfl rfl)
set_option maxRecDepth 100000 in
theorem l_X9_102 : lok RX9 102 yX9_readSuffix := Or.inl (gwt_3 154 rfl rfl)
set_option maxRecDepth 100000 in
theorem l_X9_109 : lok RX9 109 yX9_readPrimary := Or.inl (gwt_3 158 rfl rfl)
set_option maxRecDepth 100000 in
theorem l_X9_105 : lok RX9 105 yX10_add := Or.inl (gwt_3 162 rfl rfl)
set_option maxRecDepth 100000 in
theorem l_X10_57 : lok RX10 57 yJ7_fill_fda19 := Or.inl (gwt_3 166 rfl rfl)
set_option maxRecDepth 100000 in
theorem l_J7_13 : lok RJ7 13 yJ7_rangeCheck_23922 := Or.inl (gwt_3 169 rfl rfl)
set_option maxRecDepth 100000 in
theorem l_X9_121 : lok RX9 121 yX9_readLiteral := Or.inl (gwt_3 172 rfl rfl)
set_option maxRecDepth 100000 in
theorem l_X9_134 : lok RX9 134 yX9_readByte := Or.inl (gwt_3 176 rfl rfl)
set_option maxRecDepth 100000 in
theorem l_X9_145 : lok RX9 145 yX9_readEscape := Or.inl (gwt_3 180 rfl rfl)
set_option maxRecDepth 100000 in
theorem l_X9_148 : lok RX9 148 yX9_hexValue := Or.inl (gwt_3 184 rfl rfl)
set_option maxRecDepth 100000 in
theorem l_X9_127 : lok RX9 127 yX9_addPlain := Or.inl (gwt_3 187 rfl rfl)
set_option maxRecDepth 100000 in
theorem l_X9_130 : lok RX9 130 yX10_addBytes := Or.inl (gwt_3 191 rfl rfl)
set_option maxRecDepth 100000 in
theorem l_X9_97 : lok RX9 97 yX10_linkPart := Or.inl (gwt_3 195 rfl rfl)
set_option maxRecDepth 100000 in
theorem l_X9_138 : lok RX9 138 yX10_joinCases := Or.inl (gwt_3 199 rfl rfl)
set_option maxRecDepth 100000 in
theorem l_X9_88 : lok RX9 88 yX10_fold := Or.inl (gwt_3 204 rfl rfl)
set_option maxRecDepth 100000 in
theorem l_X10_68 : lok RX10 68 yX10_add := Or.inl (gwt_3 208 rfl rfl)
set_option maxRecDepth 100000 in
theorem l_X9_124 : lok RX9 124 yX9_readClass := Or.inl (gwt_3 209 rfl rfl)
set_option maxRecDepth 100000 in
theorem l_X9_142 : lok RX9 142 yX10_turnBytes := Or.inl (gwt_3 213 rfl rfl)
set_option maxRecDepth 100000 in
theorem l_X9_112 : lok RX9 112 yX9_readRepeat := Or.inl (gwt_3 217 rfl rfl)
set_option maxRecDepth 100000 in
theorem l_X9_115 : lok RX9 115 yX9_readLoop := Or.inl (gwt_3 221 rfl rfl)
set_option maxRecDepth 100000 in
theorem l_X9_84 : lok RX9 84 yX10_linkChoice := Or.inl (gwt_3 225 rfl rfl)
set_option maxRecDepth 100000 in
theorem l_X10_64 : lok RX10 64 yX10_linkPart := Or.inl (gwt_3 229 rfl rfl)
set_option maxRecDepth 100000 in
theorem l_X11_112 : lok RX11 112 yX11_noteFault := Or.inl (gwt_3 230 rfl rfl)
set_option maxRecDepth 100000 in
theorem l_X11_116 : lok RX11 116 yX5_findKind := Or.inl (gwt_3 234 rfl rfl)
set_option maxRecDepth 100000 in
theorem l_X5_32 : lok RX5 32 yX5_bindNames := Or.inl (gwt_3 238 rfl rfl)
set_option maxRecDepth 100000 in
theorem l_X5_70 : lok RX5 70 yX5_findRule := Or.inl (gwt_4 2 rfl rfl)
set_option maxRecDepth 100000 in
theorem l_X5_87 : lok RX5 87 yX5_sameBytes := Or.inl (gwt_4 6 rfl rfl)
set_option maxRecDepth 100000 in
theorem l_X5_74 : lok RX5 74 yX5_blame := Or.inl (gwt_4 10 rfl rfl)
set_option maxRecDepth 100000 in
theorem l_X5_35 : lok RX5 35 yX5_findSecondNames := Or.inl (gwt_4 14 rfl rfl)
set_option maxRecDepth 100000 in
theorem l_X5_38 : lok RX5 38 yX5_findFacts := Or.inl (gwt_4 18 rfl rfl)
set_option maxRecDepth 100000 in
theorem l_X5_91 : lok RX5 91 yX5_factsOf := Or.inl (gwt_4 22 rfl rfl)
set_option maxRecDepth 100000 in
theorem l_X5_101 : lok RX5 101 yX5_factsInRow := Or.inl (gwt_4 26 rfl rfl)
set_option maxRecDepth 100000 in
theorem l_X5_41 : lok RX5 41 yX5_findBegins := Or.inl (gwt_4 29 rfl rfl)
set_option maxRecDepth 100000 in
theorem l_X5_104 : lok RX5 104 yX5_goesRight := Or.inl (gwt_4 33 rfl rfl)
set_option maxRecDepth 100000 in
theorem l_X5_108 : lok RX5 108 yX10_has := Or.inl (gwt_4 37 rfl rfl)
set_option maxRecDepth 100000 in
theorem l_X5_44 : lok RX5 44 yX5_findLeft := Or.inl (gwt_4 41 rfl rfl)
set_option maxRecDepth 100000 in
theorem l_X5_48 : lok RX5 48 yX5_findEndless := Or.inl (gwt_4 45 rfl rfl)
set_option maxRecDepth 100000 in
theorem l_X5_51 : lok RX5 51 yX5_findFirsts := Or.inl (gwt_4 49 rfl rfl)
set_option maxRecDepth 100000 in
theorem l_X5_112 : lok RX5 112 yJ13_bitCount_95d88 := Or.inl (gwt_4 53 rfl rfl)
set_option maxRecDepth 100000 in
theorem l_X5_121 : lok RX5 121 yX5_takeFirsts := Or.inl (gwt_4 59 rfl rfl)
set_option maxRecDepth 100000 in
theorem l_X5_125 : lok RX5 125 yX5_joinFirst := Or.inl (gwt_4 63 rfl rfl)
set_option maxRecDepth 100000 in
theorem l_X11_121 : lok RX11 121 yX3_makeProgram := Or.inl (gwt_4 67 rfl rfl)
set_option maxRecDepth 100000 in
theorem l_X3_40 : lok RX3 40 yX3_measure := Or.inl (gwt_4 71 rfl rfl)
set_option maxRecDepth 100000 in
theorem l_X3_76 : lok RX3 76 yX3_sizeOf := Or.inl (gwt_4 75 rfl rfl)
set_option maxRecDepth 100000 in
theorem l_X3_96 : lok RX3 96 yX10_has := Or.inl (gwt_4 79 rfl rfl)
set_option maxRecDepth 100000 in
theorem l_X3_103 : lok RX3 103 yX3_isDirect := Or.inl (gwt_4 80 rfl rfl)
set_option maxRecDepth 100000 in
theorem l_X3_107 : lok RX3 107 yX3_trySize := Or.inl (gwt_4 84 rfl rfl)
set_option maxRecDepth 100000 in
theorem l_X3_111 : lok RX3 111 yX3_starSize := Or.inl (gwt_4 88 rfl rfl)
set_option maxRecDepth 100000 in
theorem l_X3_80 : lok RX3 80 yJ9_min_7cf53 := Or.inl (gwt_4 92 rfl rfl)
set_option maxRecDepth 100000 in
theorem l_X3_86 : lok RX3 86 yX3_coreOf := Or.inl (gwt_4 95 rfl rfl)
set_option maxRecDepth 100000 in
theorem l_X3_43 : lok RX3 43 yX3_placeRules := Or.inl (gwt_4 99 rfl rfl)
set_option maxRecDepth 100000 in
theorem l_X3_50 : lok RX3 50 yX3_write := Or.inl (gwt_4 106 rfl rfl)
set_option maxRecDepth 100000 in
theorem l_X3_60 : lok RX3 60 yX3_await := Or.inl (gwt_4 110 rfl rfl)
set_option maxRecDepth 100000 in
theorem l_X3_64 : lok RX3 64 yX3_writeWaiting := Or.inl (gwt_4 114 rfl rfl)
set_option maxRecDepth 100000 in
theorem l_X3_150 : lok RX3 150 yX3_writeNode := Or.inl (gwt_4 119 rfl rfl)
set_option maxRecDepth 100000 in
theorem l_X3_153 : lok RX3 153 yX3_writeByBytes := Or.inl (gwt_4 123 rfl rfl)
set_option maxRecDepth 100000 in
theorem l_X3_171 : lok RX3 171 yJ6_bitCount_0f7a4 := Or.inl (gwt_4 127 rfl rfl)
set_option maxRecDepth 100000 in
theorem l_X3_156 : lok RX3 156 yX3_writeChoice := Or.inl (gwt_4 133 rfl rfl)
set_option maxRecDepth 100000 in
theorem l_X3_176 : lok RX3 176 yX3_writeTry := Or.inl (gwt_4 137 rfl rfl)
set_option maxRecDepth 100000 in
theorem l_X3_159 : lok RX3 159 yX3_writeOption := Or.inl (gwt_4 141 rfl rfl)
set_option maxRecDepth 100000 in
theorem l_X3_162 : lok RX3 162 yX3_writeStar := Or.inl (gwt_4 145 rfl rfl)
set_option maxRecDepth 100000 in
theorem l_X3_165 : lok RX3 165 yX3_writeNot := Or.inl (gwt_4 149 rfl rfl)
set_option maxRecDepth 100000 in
theorem l_X3_168 : lok RX3 168 yX3_writeAnd := Or.inl (gwt_4 153 rfl rfl)
set_option maxRecDepth 100000 in
theorem l_X3_67 : lok RX3 67 yX3_shorten := Or.inl (gwt_4 157 rfl rfl)
set_option maxRecDepth 100000 in
theorem l_X3_180 : lok RX3 180 yX3_followJumps := Or.inl (gwt_4 161 rfl rfl)
set_option maxRecDepth 100000 in
theorem l_X3_183 : lok RX3 183 yX3_replaceJumps := Or.inl (gwt_4 165 rfl rfl)
set_option maxRecDepth 100000 in
theorem l_X3_186 : lok RX3 186 yX3_replaceCalls := Or.inl (gwt_4 169 rfl rfl)
set_option maxRecDepth 100000 in
theorem l_X3_70 : lok RX3 70 yX3_numberSets := Or.inl (gwt_4 173 rfl rfl)
set_option maxRecDepth 100000 in
theorem l_X3_192 : lok RX3 192 yX8_usesSet := Or.inl (gwt_4 177 rfl rfl)
set_option maxRecDepth 100000 in
theorem l_X3_195 : lok RX3 195 yX3_setNumber := Or.inl (gwt_4 181 rfl rfl)
set_option maxRecDepth 100000 in
theorem l_X3_201 : lok RX3 201 yX3_isSet := Or.inl (gwt_4 185 rfl rfl)
set_option maxRecDepth 100000 in
theorem l_X11_125 : lok RX11 125 yX1_makeCode := Or.inl (gwt_4 189 rfl rfl)
set_option maxRecDepth 100000 in
theorem l_X1_49 : lok RX1 49 yX1_markAligned := Or.inl (gwt_4 193 rfl rfl)
set_option maxRecDepth 100000 in
theorem l_X1_52 : lok RX1 52 yJ7_fill_031fb := Or.inl (gwt_4 197 rfl rfl)
set_option maxRecDepth 100000 in
theorem l_X1_58 : lok RX1 58 yX1_layAll := Or.inl (gwt_4 200 rfl rfl)
set_option maxRecDepth 100000 in
theorem l_X1_81 : lok RX1 81 yX1_keepRoom := Or.inl (gwt_4 204 rfl rfl)
set_option maxRecDepth 100000 in
theorem l_X1_154 : lok RX1 154 yX1_layByte := Or.inl (gwt_4 208 rfl rfl)
set_option maxRecDepth 100000 in
theorem l_X1_85 : lok RX1 85 yX1_layTaking := Or.inl (gwt_4 212 rfl rfl)
set_option maxRecDepth 100000 in
theorem l_X1_103 : lok RX1 103 yX1_layLimit := Or.inl (gwt_4 216 rfl rfl)
set_option maxRecDepth 100000 in
theorem l_X1_157 : lok RX1 157 yX1_second := Or.inl (gwt_4 220 rfl rfl)
set_option maxRecDepth 100000 in
theorem l_X1_161 : lok RX1 161 yX1_layWord := Or.inl (gwt_4 224 rfl rfl)
set_option maxRecDepth 100000 in
theorem l_X1_106 : lok RX1 106 yX1_layJump := Or.inl (gwt_4 228 rfl rfl)
set_option maxRecDepth 100000 in
theorem l_X1_110 : lok RX1 110 yX1_layNext := Or.inl (gwt_4 232 rfl rfl)
set_option maxRecDepth 100000 in
theorem l_X1_148 : lok RX1 148 yX1_layCopy := Or.inl (gwt_4 236 rfl rfl)
set_option maxRecDepth 100000 in
theorem l_X1_113 : lok RX1 113 yX1_layNumber := Or.inl (gwt_5 1 rfl rfl)
set_option maxRecDepth 100000 in
theorem l_X1_117 : lok RX1 117 yX8_usesSet := Or.inl (gwt_5 6 rfl rfl)
set_option maxRecDepth 100000 in
theorem l_X1_121 : lok RX1 121 yX1_layIn := Or.inl (gwt_5 7 rfl rfl)
set_option maxRecDepth 100000 in
theorem l_X1_168 : lok RX1 168 yX1_layMemory := Or.inl (gwt_5 12 rfl rfl)
set_option maxRecDepth 100000 in
theorem l_X1_124 : lok RX1 124 yX1_layOne := Or.inl (gwt_5 16 rfl rfl)
set_option maxRecDepth 100000 in
theorem l_X1_88 : lok RX1 88 yX1_layControl := Or.inl (gwt_5 20 rfl rfl)
set_option maxRecDepth 100000 in
theorem l_X1_127 : lok RX1 127 yX1_layChoice := Or.inl (gwt_5 24 rfl rfl)
set_option maxRecDepth 100000 in
theorem l_X1_173 : lok RX1 173 yX1_layLoadNumber := Or.inl (gwt_5 28 rfl rfl)
set_option maxRecDepth 100000 in
theorem l_X1_130 : lok RX1 130 yX1_layEntry := Or.inl (gwt_5 33 rfl rfl)
set_option maxRecDepth 100000 in
theorem l_X1_133 : lok RX1 133 yX1_layCall := Or.inl (gwt_5 37 rfl rfl)
set_option maxRecDepth 100000 in
theorem l_X1_136 : lok RX1 136 yX1_layPartial := Or.inl (gwt_5 41 rfl rfl)
set_option maxRecDepth 100000 in
theorem l_X1_139 : lok RX1 139 yX1_layBackCommit := Or.inl (gwt_5 45 rfl rfl)
set_option maxRecDepth 100000 in
theorem l_X1_142 : lok RX1 142 yX1_layReturn := Or.inl (gwt_5 49 rfl rfl)
set_option maxRecDepth 100000 in
theorem l_X1_94 : lok RX1 94 yX1_layGo := Or.inl (gwt_5 53 rfl rfl)
set_option maxRecDepth 100000 in
theorem l_X1_145 : lok RX1 145 yX1_layEvent := Or.inl (gwt_5 59 rfl rfl)
set_option maxRecDepth 100000 in
theorem l_X1_151 : lok RX1 151 yX1_layLeap := Or.inl (gwt_5 64 rfl rfl)
set_option maxRecDepth 100000 in
theorem l_X1_91 : lok RX1 91 yX1_layFail := Or.inl (gwt_5 68 rfl rfl)
set_option maxRecDepth 100000 in
theorem l_X1_97 : lok RX1 97 yX1_layEnd := Or.inl (gwt_5 72 rfl rfl)
set_option maxRecDepth 100000 in
theorem l_X1_62 : lok RX1 62 yX1_widenJumps := Or.inl (gwt_5 76 rfl rfl)
set_option maxRecDepth 100000 in
theorem l_L_28 : lok RL 28 yX11_fault := Or.inl (gwt_5 80 rfl rfl)
set_option maxRecDepth 100000 in
theorem l_L_32 : lok RL 32 yX11_count := Or.inl (gwt_5 84 rfl rfl)
set_option maxRecDepth 100000 in
theorem l_L_36 : lok RL 36 yX11_rule := Or.inl (gwt_5 88 rfl rfl)
set_option maxRecDepth 100000 in
theorem l_L_41 : lok RL 41 yX11_program := Or.inl (gwt_5 92 rfl rfl)
set_option maxRecDepth 100000 in
theorem l_L_45 : lok RL 45 yX11_set := Or.inl (gwt_5 96 rfl rfl)
set_option maxRecDepth 100000 in
theorem l_L_49 : lok RL 49 yX11_image := Or.inl (gwt_5 100 rfl rfl)
set_option maxRecDepth 100000 in
theorem l_L_53 : lok RL 53 yX11_subject := Or.inl (gwt_5 104 rfl rfl)
set_option maxRecDepth 100000 in
theorem l_L_57 : lok RL 57 yX11_arm := Or.inl (gwt_5 109 rfl rfl)
set_option maxRecDepth 100000 in
theorem l_X11_178 : lok RX11 178 yX7_takeCode := Or.inl (gwt_5 113 rfl rfl)
set_option maxRecDepth 100000 in
theorem l_X7_61 : lok RX7 61 yJ9_min_7cf53 := Or.inl (gwt_5 117 rfl rfl)
set_option maxRecDepth 100000 in
theorem l_X11_182 : lok RX11 182 yX7_clearData := Or.inl (gwt_5 119 rfl rfl)
set_option maxRecDepth 100000 in
theorem l_X7_73 : lok RX7 73 yJ7_fill_031fb := Or.inl (gwt_5 123 rfl rfl)
set_option maxRecDepth 100000 in
theorem l_X11_185 : lok RX11 185 yX7_fillData := Or.inl (gwt_5 124 rfl rfl)
set_option maxRecDepth 100000 in
theorem l_X7_79 : lok RX7 79 yX7_writeWord := Or.inl (gwt_5 128 rfl rfl)
set_option maxRecDepth 100000 in
theorem l_X11_188 : lok RX11 188 yX7_fillSets := Or.inl (gwt_5 132 rfl rfl)
set_option maxRecDepth 100000 in
theorem l_X11_192 : lok RX11 192 yX7_prepare := Or.inl (gwt_5 136 rfl rfl)
set_option maxRecDepth 100000 in
theorem l_X7_83 : lok RX7 83 yJ7_fill_53178 := Or.inl (gwt_5 140 rfl rfl)
set_option maxRecDepth 100000 in
theorem l_X7_89 : lok RX7 89 yX7_goTo := Or.inl (gwt_5 143 rfl rfl)
set_option maxRecDepth 100000 in
theorem l_X11_196 : lok RX11 196 yX2_forget := Or.inl (gwt_5 147 rfl rfl)
set_option maxRecDepth 100000 in
theorem l_L_62 : lok RL 62 yX11_match := Or.inl (gwt_5 151 rfl rfl)
set_option maxRecDepth 100000 in
theorem l_X11_199 : lok RX11 199 yX11_arm := Or.inl (gwt_5 155 rfl rfl)
set_option maxRecDepth 100000 in
theorem l_X11_204 : lok RX11 204 yX7_makeSteps := Or.inl (gwt_5 157 rfl rfl)
set_option maxRecDepth 100000 in
theorem l_X7_93 : lok RX7 93 yX7_tryStep := Or.inl (gwt_5 161 rfl rfl)
set_option maxRecDepth 100000 in
theorem l_X7_97 : lok RX7 97 yX4_decode := Or.inl (gwt_5 165 rfl rfl)
set_option maxRecDepth 100000 in
theorem l_X4_65 : lok RX4 65 yJ9_min_7cf53 := Or.inl (gwt_5 169 rfl rfl)
set_option maxRecDepth 100000 in
theorem l_X4_71 : lok RX4 71 yX4_nextByte := Or.inl (gwt_5 170 rfl rfl)
set_option maxRecDepth 100000 in
theorem l_X4_75 : lok RX4 75 yX4_decodeTwo := Or.inl (gwt_5 174 rfl rfl)
set_option maxRecDepth 100000 in
theorem l_X4_91 : lok RX4 91 yX4_decodeM := Or.inl (gwt_5 178 rfl rfl)
set_option maxRecDepth 100000 in
theorem l_X4_94 : lok RX4 94 yX4_decodeThird := Or.inl (gwt_5 182 rfl rfl)
set_option maxRecDepth 100000 in
theorem l_X4_82 : lok RX4 82 yX4_nextWord := Or.inl (gwt_5 186 rfl rfl)
set_option maxRecDepth 100000 in
theorem l_X4_97 : lok RX4 97 yX4_refuseIf := Or.inl (gwt_5 190 rfl rfl)
set_option maxRecDepth 100000 in
theorem l_X4_79 : lok RX4 79 yX4_decodeArithmetic := Or.inl (gwt_5 194 rfl rfl)
set_option maxRecDepth 100000 in
theorem l_X4_85 : lok RX4 85 yX4_decodeMoves := Or.inl (gwt_5 198 rfl rfl)
set_option maxRecDepth 100000 in
theorem l_X4_88 : lok RX4 88 yX4_decodeOthers := Or.inl (gwt_5 202 rfl rfl)
set_option maxRecDepth 100000 in
theorem l_X4_101 : lok RX4 101 yX4_unaryKind := Or.inl (gwt_5 206 rfl rfl)
set_option maxRecDepth 100000 in
theorem l_X4_105 : lok RX4 105 yX4_lastKind := Or.inl (gwt_5 209 rfl rfl)
set_option maxRecDepth 100000 in
theorem l_X7_107 : lok RX7 107 yX7_findAddress := Or.inl (gwt_5 212 rfl rfl)
set_option maxRecDepth 100000 in
theorem l_X7_137 : lok RX7 137 yX7_sumOfM := Or.inl (gwt_5 216 rfl rfl)
set_option maxRecDepth 100000 in
theorem l_X7_113 : lok RX7 113 yX7_calculate := Or.inl (gwt_5 221 rfl rfl)
set_option maxRecDepth 100000 in
theorem l_X7_159 : lok RX7 159 yX7_readM := Or.inl (gwt_5 225 rfl rfl)
set_option maxRecDepth 100000 in
theorem l_X7_149 : lok RX7 149 yX7_readByteRegister := Or.inl (gwt_5 229 rfl rfl)
set_option maxRecDepth 100000 in
theorem l_X7_153 : lok RX7 153 yX7_readWord := Or.inl (gwt_5 233 rfl rfl)
set_option maxRecDepth 100000 in
theorem l_X7_168 : lok RX7 168 yX0_arithmetic := Or.inl (gwt_5 237 rfl rfl)
set_option maxRecDepth 100000 in
theorem l_X0_24 : lok RX0 24 yX0_sum := Or.inl (gwt_6 1 rfl rfl)
set_option maxRecDepth 100000 in
theorem l_X0_21 : lok RX0 21 yX0_shownBy := Or.inl (gwt_6 6 rfl rfl)
set_option maxRecDepth 100000 in
theorem l_X0_13 : lok RX0 13 yJ6_bitCount_0f7a4 := Or.inl (gwt_6 9 rfl rfl)
set_option maxRecDepth 100000 in
theorem l_X0_28 : lok RX0 28 yX0_logic := Or.inl (gwt_6 10 rfl rfl)
set_option maxRecDepth 100000 in
theorem l_X0_31 : lok RX0 31 yX0_difference := Or.inl (gwt_6 14 rfl rfl)
set_option maxRecDepth 100000 in
theorem l_X7_172 : lok RX7 172 yX7_writeUnlessCompared := Or.inl (gwt_6 18 rfl rfl)
set_option maxRecDepth 100000 in
theorem l_X7_182 : lok RX7 182 yX7_writeM := Or.inl (gwt_6 22 rfl rfl)
set_option maxRecDepth 100000 in
theorem l_X7_156 : lok RX7 156 yX7_writeByteRegister := Or.inl (gwt_6 26 rfl rfl)
set_option maxRecDepth 100000 in
theorem l_X7_178 : lok RX7 178 yX0_stepBy := Or.inl (gwt_6 31 rfl rfl)
set_option maxRecDepth 100000 in
theorem l_X7_185 : lok RX7 185 yX0_logic := Or.inl (gwt_6 35 rfl rfl)
set_option maxRecDepth 100000 in
theorem l_X7_188 : lok RX7 188 yX0_difference := Or.inl (gwt_6 36 rfl rfl)
set_option maxRecDepth 100000 in
theorem l_X7_191 : lok RX7 191 yX0_shift := Or.inl (gwt_6 37 rfl rfl)
set_option maxRecDepth 100000 in
theorem l_X0_34 : lok RX0 34 yX0_turnOnce := Or.inl (gwt_6 41 rfl rfl)
set_option maxRecDepth 100000 in
theorem l_X0_42 : lok RX0 42 yX0_note := Or.inl (gwt_6 46 rfl rfl)
set_option maxRecDepth 100000 in
theorem l_X0_38 : lok RX0 38 yX0_shiftOnce := Or.inl (gwt_6 50 rfl rfl)
set_option maxRecDepth 100000 in
theorem l_X7_194 : lok RX7 194 yX0_noteBit := Or.inl (gwt_6 54 rfl rfl)
set_option maxRecDepth 100000 in
theorem l_X7_197 : lok RX7 197 yX0_noteWide := Or.inl (gwt_6 58 rfl rfl)
set_option maxRecDepth 100000 in
theorem l_X7_116 : lok RX7 116 yX7_calculateLong := Or.inl (gwt_6 62 rfl rfl)
set_option maxRecDepth 100000 in
theorem l_X7_203 : lok RX7 203 yX7_writeLong := Or.inl (gwt_6 67 rfl rfl)
set_option maxRecDepth 100000 in
theorem l_X7_207 : lok RX7 207 yX7_divide := Or.inl (gwt_6 71 rfl rfl)
set_option maxRecDepth 100000 in
theorem l_X7_210 : lok RX7 210 yX7_divideSigned := Or.inl (gwt_6 76 rfl rfl)
set_option maxRecDepth 100000 in
theorem l_X7_119 : lok RX7 119 yX7_move := Or.inl (gwt_6 81 rfl rfl)
set_option maxRecDepth 100000 in
theorem l_X7_216 : lok RX7 216 yX0_holds := Or.inl (gwt_6 85 rfl rfl)
set_option maxRecDepth 100000 in
theorem l_X7_122 : lok RX7 122 yX7_jump := Or.inl (gwt_6 89 rfl rfl)
set_option maxRecDepth 100000 in
theorem l_X7_220 : lok RX7 220 yX7_push := Or.inl (gwt_6 93 rfl rfl)
set_option maxRecDepth 100000 in
theorem l_X7_227 : lok RX7 227 yX7_holdsWord := Or.inl (gwt_6 97 rfl rfl)
set_option maxRecDepth 100000 in
theorem l_X7_223 : lok RX7 223 yX7_pop := Or.inl (gwt_6 101 rfl rfl)
set_option maxRecDepth 100000 in
theorem l_X11_208 : lok RX11 208 yX6_note := Or.inl (gwt_6 105 rfl rfl)
set_option maxRecDepth 100000 in
theorem l_X6_36 : lok RX6 36 yJ9_min_7cf53 := Or.inl (gwt_6 109 rfl rfl)
set_option maxRecDepth 100000 in
theorem l_X6_45 : lok RX6 45 yX6_noteEvents := Or.inl (gwt_6 110 rfl rfl)
set_option maxRecDepth 100000 in
theorem l_X6_49 : lok RX6 49 yX7_readWord := Or.inl (gwt_6 114 rfl rfl)
set_option maxRecDepth 100000 in
theorem l_L_66 : lok RL 66 yX11_peak := Or.inl (gwt_6 115 rfl rfl)
set_option maxRecDepth 100000 in
theorem l_L_70 : lok RL 70 yX11_event := Or.inl (gwt_6 119 rfl rfl)
set_option maxRecDepth 100000 in
theorem l_L_74 : lok RL 74 yX11_place := Or.inl (gwt_6 123 rfl rfl)
set_option maxRecDepth 100000 in
theorem l_X11_227 : lok RX11 227 yX7_goTo := Or.inl (gwt_6 127 rfl rfl)
set_option maxRecDepth 100000 in
theorem l_L_78 : lok RL 78 yX11_check := Or.inl (gwt_6 128 rfl rfl)
set_option maxRecDepth 100000 in
theorem l_X11_231 : lok RX11 231 yX2_look := Or.inl (gwt_6 132 rfl rfl)
set_option maxRecDepth 100000 in
theorem l_X2_57 : lok RX2 57 yJ9_min_7cf53 := Or.inl (gwt_6 137 rfl rfl)
set_option maxRecDepth 100000 in
theorem l_X2_63 : lok RX2 63 yX2_findGoals := Or.inl (gwt_6 138 rfl rfl)
set_option maxRecDepth 100000 in
theorem l_X2_75 : lok RX2 75 yJ7_fill_53178 := Or.inl (gwt_6 142 rfl rfl)
set_option maxRecDepth 100000 in
theorem l_X2_81 : lok RX2 81 yX4_decode := Or.inl (gwt_6 143 rfl rfl)
set_option maxRecDepth 100000 in
theorem l_X2_85 : lok RX2 85 yX2_isInstruction := Or.inl (gwt_6 144 rfl rfl)
set_option maxRecDepth 100000 in
theorem l_X2_89 : lok RX2 89 yX2_addBit := Or.inl (gwt_6 148 rfl rfl)
set_option maxRecDepth 100000 in
theorem l_X2_95 : lok RX2 95 yX2_jumpsByNumber := Or.inl (gwt_6 151 rfl rfl)
set_option maxRecDepth 100000 in
theorem l_X2_99 : lok RX2 99 yJ9_max_7cf53 := Or.inl (gwt_6 155 rfl rfl)
set_option maxRecDepth 100000 in
theorem l_X2_66 : lok RX2 66 yX2_findRefused := Or.inl (gwt_6 158 rfl rfl)
set_option maxRecDepth 100000 in
theorem l_X2_102 : lok RX2 102 yX2_dropAll := Or.inl (gwt_6 162 rfl rfl)
set_option maxRecDepth 100000 in
theorem l_X2_105 : lok RX2 105 yX2_hasBit := Or.inl (gwt_6 166 rfl rfl)
set_option maxRecDepth 100000 in
theorem l_X2_109 : lok RX2 109 yX2_reasonAt := Or.inl (gwt_6 169 rfl rfl)
set_option maxRecDepth 100000 in
theorem l_X2_122 : lok RX2 122 yX2_isConfined := Or.inl (gwt_6 173 rfl rfl)
set_option maxRecDepth 100000 in
theorem l_X2_128 : lok RX2 128 yX2_leadsWell := Or.inl (gwt_6 179 rfl rfl)
set_option maxRecDepth 100000 in
theorem l_X2_113 : lok RX2 113 yX2_noteChain := Or.inl (gwt_6 184 rfl rfl)
set_option maxRecDepth 100000 in
theorem l_X2_116 : lok RX2 116 yX2_noteMasks := Or.inl (gwt_6 189 rfl rfl)
set_option maxRecDepth 100000 in
theorem l_X2_153 : lok RX2 153 yX2_dropM := Or.inl (gwt_6 193 rfl rfl)
set_option maxRecDepth 100000 in
theorem l_X2_156 : lok RX2 156 yX2_keepMask := Or.inl (gwt_6 197 rfl rfl)
set_option maxRecDepth 100000 in
theorem l_L_82 : lok RL 82 yX11_begin := Or.inl (gwt_6 202 rfl rfl)
set_option maxRecDepth 100000 in
theorem l_L_87 : lok RL 87 yX11_run := Or.inl (gwt_6 207 rfl rfl)
set_option maxRecDepth 100000 in
theorem l_L_91 : lok RL 91 yX11_get := Or.inl (gwt_6 212 rfl rfl)
set_option maxRecDepth 100000 in
theorem l_L_95 : lok RL 95 yX11_put := Or.inl (gwt_6 216 rfl rfl)
set_option maxRecDepth 100000 in
theorem l_L_99 : lok RL 99 yX11_store := Or.inl (gwt_6 220 rfl rfl)
set_option maxRecDepth 100000 in
theorem l_X11_261 : lok RX11 261 yX7_writeWord := Or.inl (gwt_6 225 rfl rfl)
set_option maxRecDepth 100000 in
theorem l_L_103 : lok RL 103 yX11_load := Or.inl (gwt_6 226 rfl rfl)
set_option maxRecDepth 100000 in
theorem l_X11_264 : lok RX11 264 yX7_readWord := Or.inl (gwt_6 230 rfl rfl)
set_option maxRecDepth 100000 in
theorem l_L_12 : lok RL 12 yX14_init := Or.inl (gwt_6 233 rfl rfl)
set_option maxRecDepth 100000 in
theorem l_X14_11 : lok RX14 11 yX12_init := Or.inl (gwt_7 36 rfl rfl)
set_option maxRecDepth 100000 in
theorem l_X14_84 : lok RX14 84 yX13_init := Or.inr ⟨"MatchHouseModel", (nwt_7 64 rfl rfl)⟩
set_option maxRecDepth 100000 in
theorem l_L_17 : lok RL 17 yX14_feed := Or.inl (gwt_8 151 rfl rfl)
set_option maxRecDepth 100000 in
theorem l_L_22 : lok RL 22 yX14_end := Or.inl (gwt_8 155 rfl rfl)
set_option maxRecDepth 100000 in
theorem l_L_56 : lok RL 56 yX14_subject := Or.inl (gwt_8 159 rfl rfl)
set_option maxRecDepth 100000 in
theorem l_X14_522 : lok RX14 522 yX14_text := Or.inl (gwt_8 167 rfl rfl)
set_option maxRecDepth 100000 in
theorem l_X14_177 : lok RX14 177 yX14_skip := Or.inl (gwt_8 171 rfl rfl)
set_option maxRecDepth 100000 in
theorem l_X14_173 : lok RX14 173 yX14_peek := Or.inl (gwt_8 175 rfl rfl)
set_option maxRecDepth 100000 in
theorem l_X14_180 : lok RX14 180 yX14_malformed := Or.inl (gwt_8 179 rfl rfl)
set_option maxRecDepth 100000 in
theorem l_X14_187 : lok RX14 187 yX14_beginsName := Or.inl (gwt_8 183 rfl rfl)
set_option maxRecDepth 100000 in
theorem l_X14_206 : lok RX14 206 yX14_name := Or.inl (gwt_8 186 rfl rfl)
set_option maxRecDepth 100000 in
theorem l_X14_209 : lok RX14 209 yX14_need := Or.inl (gwt_8 190 rfl rfl)
set_option maxRecDepth 100000 in
theorem l_X14_212 : lok RX14 212 yX14_choice := Or.inl (gwt_8 194 rfl rfl)
set_option maxRecDepth 100000 in
theorem l_X14_215 : lok RX14 215 yX14_sequence := Or.inl (gwt_8 198 rfl rfl)
set_option maxRecDepth 100000 in
theorem l_X14_222 : lok RX14 222 yX14_beginsPrimary := Or.inl (gwt_8 202 rfl rfl)
set_option maxRecDepth 100000 in
theorem l_X14_225 : lok RX14 225 yX14_prefix := Or.inl (gwt_8 205 rfl rfl)
set_option maxRecDepth 100000 in
theorem l_X14_228 : lok RX14 228 yX14_opens := Or.inl (gwt_8 209 rfl rfl)
set_option maxRecDepth 100000 in
theorem l_X14_231 : lok RX14 231 yX14_suffix := Or.inl (gwt_8 213 rfl rfl)
set_option maxRecDepth 100000 in
theorem l_X14_234 : lok RX14 234 yX14_primary := Or.inl (gwt_8 217 rfl rfl)
set_option maxRecDepth 100000 in
theorem l_X14_218 : lok RX14 218 yX14_part := Or.inl (gwt_8 221 rfl rfl)
set_option maxRecDepth 100000 in
theorem l_X14_237 : lok RX14 237 yX14_literal := Or.inl (gwt_8 225 rfl rfl)
set_option maxRecDepth 100000 in
theorem l_X14_247 : lok RX14 247 yX14_escaped := Or.inl (gwt_8 229 rfl rfl)
set_option maxRecDepth 100000 in
theorem l_X14_243 : lok RX14 243 yX14_hex := Or.inl (gwt_8 233 rfl rfl)
set_option maxRecDepth 100000 in
theorem l_X14_250 : lok RX14 250 yX14_mark := Or.inl (gwt_8 236 rfl rfl)
set_option maxRecDepth 100000 in
theorem l_X14_240 : lok RX14 240 yX14_charClass := Or.inl (gwt_9 0 rfl rfl)
set_option maxRecDepth 100000 in
theorem l_X14_254 : lok RX14 254 yX14_item := Or.inl (gwt_9 4 rfl rfl)
set_option maxRecDepth 100000 in
theorem l_X14_525 : lok RX14 525 yX14_judge := Or.inl (gwt_9 8 rfl rfl)
set_option maxRecDepth 100000 in
theorem l_X14_293 : lok RX14 293 yX14_lookAtNames := Or.inl (gwt_9 12 rfl rfl)
set_option maxRecDepth 100000 in
theorem l_X14_261 : lok RX14 261 yX14_ruleOf := Or.inl (gwt_9 16 rfl rfl)
set_option maxRecDepth 100000 in
theorem l_X14_257 : lok RX14 257 yX14_areNames := Or.inl (gwt_9 20 rfl rfl)
set_option maxRecDepth 100000 in
theorem l_X14_264 : lok RX14 264 yX14_fault := Or.inl (gwt_9 24 rfl rfl)
set_option maxRecDepth 100000 in
theorem l_X14_296 : lok RX14 296 yX14_lookAtParts := Or.inl (gwt_9 28 rfl rfl)
set_option maxRecDepth 100000 in
theorem l_X14_277 : lok RX14 277 yX14_nullable := Or.inl (gwt_9 32 rfl rfl)
set_option maxRecDepth 100000 in
theorem l_X14_267 : lok RX14 267 yX14_areAll := Or.inl (gwt_9 36 rfl rfl)
set_option maxRecDepth 100000 in
theorem l_X14_271 : lok RX14 271 yX14_isAny := Or.inl (gwt_9 40 rfl rfl)
set_option maxRecDepth 100000 in
theorem l_X14_280 : lok RX14 280 yX14_never := Or.inl (gwt_9 44 rfl rfl)
set_option maxRecDepth 100000 in
theorem l_X14_283 : lok RX14 283 yX14_sure := Or.inl (gwt_9 48 rfl rfl)
set_option maxRecDepth 100000 in
theorem l_X14_286 : lok RX14 286 yX14_firsts := Or.inl (gwt_9 52 rfl rfl)
set_option maxRecDepth 100000 in
theorem l_X14_274 : lok RX14 274 yX14_comes := Or.inl (gwt_9 56 rfl rfl)
set_option maxRecDepth 100000 in
theorem l_X14_289 : lok RX14 289 yX14_beginsWith := Or.inl (gwt_9 60 rfl rfl)
set_option maxRecDepth 100000 in
theorem l_X14_299 : lok RX14 299 yX14_lookAtRules := Or.inl (gwt_9 64 rfl rfl)
set_option maxRecDepth 100000 in
theorem l_X14_528 : lok RX14 528 yX14_compile := Or.inl (gwt_9 68 rfl rfl)
set_option maxRecDepth 100000 in
theorem l_X14_315 : lok RX14 315 yX14_add := Or.inl (gwt_9 72 rfl rfl)
set_option maxRecDepth 100000 in
theorem l_X14_330 : lok RX14 330 yX14_add_ := Or.inl (gwt_9 76 rfl rfl)
set_option maxRecDepth 100000 in
theorem l_X14_339 : lok RX14 339 yX14_emit := Or.inl (gwt_9 80 rfl rfl)
set_option maxRecDepth 100000 in
theorem l_X14_332 : lok RX14 332 yX14_byBytes := Or.inl (gwt_9 84 rfl rfl)
set_option maxRecDepth 100000 in
theorem l_X14_324 : lok RX14 324 yX14_many := Or.inl (gwt_9 88 rfl rfl)
set_option maxRecDepth 100000 in
theorem l_X14_319 : lok RX14 319 yJ6_bitCount_0f7a4 := Or.inl (gwt_9 92 rfl rfl)
set_option maxRecDepth 100000 in
theorem l_X14_327 : lok RX14 327 yX14_only := Or.inl (gwt_9 93 rfl rfl)
set_option maxRecDepth 100000 in
theorem l_X14_342 : lok RX14 342 yX14_emitChoice := Or.inl (gwt_9 97 rfl rfl)
set_option maxRecDepth 100000 in
theorem l_X14_357 : lok RX14 357 yX14_mixes := Or.inl (gwt_9 101 rfl rfl)
set_option maxRecDepth 100000 in
theorem l_X14_336 : lok RX14 336 yX14_test := Or.inl (gwt_9 105 rfl rfl)
set_option maxRecDepth 100000 in
theorem l_X14_360 : lok RX14 360 yX14_testUnlessNullable := Or.inl (gwt_9 109 rfl rfl)
set_option maxRecDepth 100000 in
theorem l_X14_363 : lok RX14 363 yX14_here := Or.inl (gwt_9 113 rfl rfl)
set_option maxRecDepth 100000 in
theorem l_X14_345 : lok RX14 345 yX14_emitMaybe := Or.inl (gwt_9 117 rfl rfl)
set_option maxRecDepth 100000 in
theorem l_X14_348 : lok RX14 348 yX14_emitStar := Or.inl (gwt_9 121 rfl rfl)
set_option maxRecDepth 100000 in
theorem l_X14_351 : lok RX14 351 yX14_emitNot := Or.inl (gwt_9 125 rfl rfl)
set_option maxRecDepth 100000 in
theorem l_X14_354 : lok RX14 354 yX14_emitAnd := Or.inl (gwt_9 129 rfl rfl)
set_option maxRecDepth 100000 in
theorem l_X14_371 : lok RX14 371 yX14_jumpsOn := Or.inl (gwt_9 133 rfl rfl)
set_option maxRecDepth 100000 in
theorem l_X14_366 : lok RX14 366 yX14_hasTarget := Or.inl (gwt_9 137 rfl rfl)
set_option maxRecDepth 100000 in
theorem l_X14_374 : lok RX14 374 yX14_jumpsBecome := Or.inl (gwt_9 140 rfl rfl)
set_option maxRecDepth 100000 in
theorem l_X14_377 : lok RX14 377 yX14_sets := Or.inl (gwt_9 144 rfl rfl)
set_option maxRecDepth 100000 in
theorem l_X14_385 : lok RX14 385 yX14_areSets := Or.inl (gwt_9 148 rfl rfl)
set_option maxRecDepth 100000 in
theorem l_X14_531 : lok RX14 531 yX14_image := Or.inl (gwt_9 152 rfl rfl)
set_option maxRecDepth 100000 in
theorem l_X14_492 : lok RX14 492 yX14_beginsBundle := Or.inl (gwt_9 156 rfl rfl)
set_option maxRecDepth 100000 in
theorem l_X14_400 : lok RX14 400 yX14_piece := Or.inl (gwt_9 160 rfl rfl)
set_option maxRecDepth 100000 in
theorem l_X14_495 : lok RX14 495 yX14_translate := Or.inl (gwt_9 164 rfl rfl)
set_option maxRecDepth 100000 in
theorem l_X14_448 : lok RX14 448 yX14_labelFail := Or.inl (gwt_9 168 rfl rfl)
set_option maxRecDepth 100000 in
theorem l_X14_451 : lok RX14 451 yX14_nextByte := Or.inl (gwt_9 172 rfl rfl)
set_option maxRecDepth 100000 in
theorem l_X14_417 : lok RX14 417 yX14_inBounds := Or.inl (gwt_9 176 rfl rfl)
set_option maxRecDepth 100000 in
theorem l_X14_404 : lok RX14 404 yX14_out_ := Or.inl (gwt_9 180 rfl rfl)
set_option maxRecDepth 100000 in
theorem l_X14_391 : lok RX14 391 yX14_out := Or.inl (gwt_9 184 rfl rfl)
set_option maxRecDepth 100000 in
theorem l_X14_406 : lok RX14 406 yX14_four := Or.inl (gwt_9 189 rfl rfl)
set_option maxRecDepth 100000 in
theorem l_X14_411 : lok RX14 411 yX14_done := Or.inl (gwt_9 193 rfl rfl)
set_option maxRecDepth 100000 in
theorem l_X14_414 : lok RX14 414 yX14_goIf := Or.inl (gwt_9 197 rfl rfl)
set_option maxRecDepth 100000 in
theorem l_X14_420 : lok RX14 420 yX14_move := Or.inl (gwt_9 201 rfl rfl)
set_option maxRecDepth 100000 in
theorem l_X14_424 : lok RX14 424 yX14_byNumber := Or.inl (gwt_9 206 rfl rfl)
set_option maxRecDepth 100000 in
theorem l_X14_454 : lok RX14 454 yX14_isByte := Or.inl (gwt_9 211 rfl rfl)
set_option maxRecDepth 100000 in
theorem l_X14_457 : lok RX14 457 yX14_on := Or.inl (gwt_9 215 rfl rfl)
set_option maxRecDepth 100000 in
theorem l_X14_460 : lok RX14 460 yX14_inSet := Or.inl (gwt_9 219 rfl rfl)
set_option maxRecDepth 100000 in
theorem l_X14_428 : lok RX14 428 yX14_load := Or.inl (gwt_9 224 rfl rfl)
set_option maxRecDepth 100000 in
theorem l_X14_463 : lok RX14 463 yX14_go := Or.inl (gwt_9 228 rfl rfl)
set_option maxRecDepth 100000 in
theorem l_X14_466 : lok RX14 466 yX14_entryNumber := Or.inl (gwt_9 232 rfl rfl)
set_option maxRecDepth 100000 in
theorem l_X14_442 : lok RX14 442 yX14_keep := Or.inl (gwt_9 237 rfl rfl)
set_option maxRecDepth 100000 in
theorem l_X14_445 : lok RX14 445 yX14_oneMore := Or.inl (gwt_10 1 rfl rfl)
set_option maxRecDepth 100000 in
theorem l_X14_435 : lok RX14 435 yX14_labelOver := Or.inl (gwt_10 5 rfl rfl)
set_option maxRecDepth 100000 in
theorem l_X14_471 : lok RX14 471 yX14_translateMore := Or.inl (gwt_10 10 rfl rfl)
set_option maxRecDepth 100000 in
theorem l_X14_474 : lok RX14 474 yX14_oneLess := Or.inl (gwt_10 14 rfl rfl)
set_option maxRecDepth 100000 in
theorem l_X14_477 : lok RX14 477 yX14_up := Or.inl (gwt_10 18 rfl rfl)
set_option maxRecDepth 100000 in
theorem l_X14_480 : lok RX14 480 yX14_goByNumber := Or.inl (gwt_10 22 rfl rfl)
set_option maxRecDepth 100000 in
theorem l_X14_483 : lok RX14 483 yX14_note := Or.inl (gwt_10 27 rfl rfl)
set_option maxRecDepth 100000 in
theorem l_X14_438 : lok RX14 438 yX14_moveNumber := Or.inl (gwt_10 31 rfl rfl)
set_option maxRecDepth 100000 in
theorem l_X14_498 : lok RX14 498 yX14_ends := Or.inl (gwt_10 36 rfl rfl)
set_option maxRecDepth 100000 in
theorem l_X14_486 : lok RX14 486 yX14_labelNo := Or.inl (gwt_10 40 rfl rfl)
set_option maxRecDepth 100000 in
theorem l_X14_489 : lok RX14 489 yX14_stops := Or.inl (gwt_10 44 rfl rfl)
set_option maxRecDepth 100000 in
theorem l_X14_501 : lok RX14 501 yX14_lay := Or.inl (gwt_10 48 rfl rfl)
set_option maxRecDepth 100000 in
theorem l_X14_513 : lok RX14 513 yX14_sizeOf := Or.inl (gwt_10 52 rfl rfl)
set_option maxRecDepth 100000 in
theorem l_X14_510 : lok RX14 510 yX14_write := Or.inl (gwt_10 56 rfl rfl)
set_option maxRecDepth 100000 in
theorem l_L_31 : lok RL 31 yX14_fault_ := Or.inl (gwt_10 60 rfl rfl)
set_option maxRecDepth 100000 in
theorem l_L_35 : lok RL 35 yX14_count := Or.inl (gwt_10 64 rfl rfl)
set_option maxRecDepth 100000 in
theorem l_L_40 : lok RL 40 yX14_rule := Or.inl (gwt_10 68 rfl rfl)
set_option maxRecDepth 100000 in
theorem l_L_44 : lok RL 44 yX14_program := Or.inl (gwt_10 72 rfl rfl)
set_option maxRecDepth 100000 in
theorem l_L_48 : lok RL 48 yX14_set := Or.inl (gwt_10 76 rfl rfl)
set_option maxRecDepth 100000 in
theorem l_L_52 : lok RL 52 yX14_image_ := Or.inl (gwt_10 80 rfl rfl)
set_option maxRecDepth 100000 in
theorem l_L_77 : lok RL 77 yX14_place := Or.inl (gwt_10 84 rfl rfl)
set_option maxRecDepth 100000 in
theorem l_L_86 : lok RL 86 yX14_begin := Or.inl (gwt_10 88 rfl rfl)
set_option maxRecDepth 100000 in
theorem l_L_90 : lok RL 90 yX14_run := Or.inl (gwt_10 92 rfl rfl)
set_option maxRecDepth 100000 in
theorem l_X14_732 : lok RX14 732 yX14_steps := Or.inl (gwt_10 97 rfl rfl)
set_option maxRecDepth 100000 in
theorem l_X14_696 : lok RX14 696 yX14_decode := Or.inl (gwt_10 101 rfl rfl)
set_option maxRecDepth 100000 in
theorem l_X14_547 : lok RX14 547 yX14_read := Or.inl (gwt_10 105 rfl rfl)
set_option maxRecDepth 100000 in
theorem l_X14_544 : lok RX14 544 yX14_byteAt := Or.inl (gwt_10 109 rfl rfl)
set_option maxRecDepth 100000 in
theorem l_X14_601 : lok RX14 601 yX14_decodeLong := Or.inl (gwt_10 113 rfl rfl)
set_option maxRecDepth 100000 in
theorem l_X14_574 : lok RX14 574 yX14_readFour := Or.inl (gwt_10 117 rfl rfl)
set_option maxRecDepth 100000 in
theorem l_X14_626 : lok RX14 626 yX14_number := Or.inl (gwt_10 121 rfl rfl)
set_option maxRecDepth 100000 in
theorem l_X14_620 : lok RX14 620 yX14_is := Or.inl (gwt_10 125 rfl rfl)
set_option maxRecDepth 100000 in
theorem l_X14_623 : lok RX14 623 yX14_isRegister := Or.inl (gwt_10 129 rfl rfl)
set_option maxRecDepth 100000 in
theorem l_X14_617 : lok RX14 617 yX14_readM := Or.inl (gwt_10 133 rfl rfl)
set_option maxRecDepth 100000 in
theorem l_X14_577 : lok RX14 577 yX14_readOne := Or.inl (gwt_10 137 rfl rfl)
set_option maxRecDepth 100000 in
theorem l_X14_604 : lok RX14 604 yX14_decodeSum := Or.inl (gwt_10 141 rfl rfl)
set_option maxRecDepth 100000 in
theorem l_X14_607 : lok RX14 607 yX14_decodeShort := Or.inl (gwt_10 145 rfl rfl)
set_option maxRecDepth 100000 in
theorem l_X14_610 : lok RX14 610 yX14_decodeMoves := Or.inl (gwt_10 149 rfl rfl)
set_option maxRecDepth 100000 in
theorem l_X14_613 : lok RX14 613 yX14_decodeRest := Or.inl (gwt_10 153 rfl rfl)
set_option maxRecDepth 100000 in
theorem l_X14_628 : lok RX14 628 yX14_decodeByThree := Or.inl (gwt_10 157 rfl rfl)
set_option maxRecDepth 100000 in
theorem l_X14_699 : lok RX14 699 yX14_doesIt := Or.inl (gwt_10 161 rfl rfl)
set_option maxRecDepth 100000 in
theorem l_X14_702 : lok RX14 702 yX14_isThere := Or.inl (gwt_10 165 rfl rfl)
set_option maxRecDepth 100000 in
theorem l_X14_632 : lok RX14 632 yX14_address := Or.inl (gwt_10 169 rfl rfl)
set_option maxRecDepth 100000 in
theorem l_X14_635 : lok RX14 635 yX14_isData := Or.inl (gwt_10 173 rfl rfl)
set_option maxRecDepth 100000 in
theorem l_X14_706 : lok RX14 706 yX14_valueOfM := Or.inl (gwt_10 177 rfl rfl)
set_option maxRecDepth 100000 in
theorem l_X14_639 : lok RX14 639 yX14_byteOf := Or.inl (gwt_10 181 rfl rfl)
set_option maxRecDepth 100000 in
theorem l_X14_642 : lok RX14 642 yX14_dataAt := Or.inl (gwt_10 185 rfl rfl)
set_option maxRecDepth 100000 in
theorem l_X14_709 : lok RX14 709 yX14_summed := Or.inl (gwt_10 189 rfl rfl)
set_option maxRecDepth 100000 in
theorem l_X14_658 : lok RX14 658 yX14_isSet := Or.inl (gwt_10 193 rfl rfl)
set_option maxRecDepth 100000 in
theorem l_X14_669 : lok RX14 669 yX14_added := Or.inl (gwt_10 197 rfl rfl)
set_option maxRecDepth 100000 in
theorem l_X14_663 : lok RX14 663 yX14_plain := Or.inl (gwt_10 201 rfl rfl)
set_option maxRecDepth 100000 in
theorem l_X14_654 : lok RX14 654 yX14_flag := Or.inl (gwt_10 205 rfl rfl)
set_option maxRecDepth 100000 in
theorem l_X14_666 : lok RX14 666 yX14_byResult := Or.inl (gwt_10 209 rfl rfl)
set_option maxRecDepth 100000 in
theorem l_X14_672 : lok RX14 672 yX14_bits := Or.inl (gwt_10 213 rfl rfl)
set_option maxRecDepth 100000 in
theorem l_X14_675 : lok RX14 675 yX14_taken := Or.inl (gwt_10 217 rfl rfl)
set_option maxRecDepth 100000 in
theorem l_X14_712 : lok RX14 712 yX14_toM := Or.inl (gwt_10 221 rfl rfl)
set_option maxRecDepth 100000 in
theorem l_X14_645 : lok RX14 645 yX14_byteTo := Or.inl (gwt_10 225 rfl rfl)
set_option maxRecDepth 100000 in
theorem l_X14_648 : lok RX14 648 yX14_dataPut := Or.inl (gwt_10 230 rfl rfl)
set_option maxRecDepth 100000 in
theorem l_X14_715 : lok RX14 715 yX14_products := Or.inl (gwt_10 234 rfl rfl)
set_option maxRecDepth 100000 in
theorem l_X14_678 : lok RX14 678 yX14_twoFlags := Or.inl (gwt_10 238 rfl rfl)
set_option maxRecDepth 100000 in
theorem l_X14_682 : lok RX14 682 yJ13_divideUnsigned_f86c9 := Or.inl (gwt_11 2 rfl rfl)
set_option maxRecDepth 100000 in
theorem l_X14_688 : lok RX14 688 yJ13_remainderUnsigned_f86c9 := Or.inl (gwt_11 6 rfl rfl)
set_option maxRecDepth 100000 in
theorem l_X14_718 : lok RX14 718 yX14_shifted := Or.inl (gwt_11 10 rfl rfl)
set_option maxRecDepth 100000 in
theorem l_X14_722 : lok RX14 722 yX14_holds := Or.inl (gwt_11 15 rfl rfl)
set_option maxRecDepth 100000 in
theorem l_X14_725 : lok RX14 725 yX14_goes := Or.inl (gwt_11 19 rfl rfl)
set_option maxRecDepth 100000 in
theorem l_X14_728 : lok RX14 728 yX14_pushes := Or.inl (gwt_11 23 rfl rfl)
set_option maxRecDepth 100000 in
theorem l_L_94 : lok RL 94 yX14_get := Or.inl (gwt_11 27 rfl rfl)
set_option maxRecDepth 100000 in
theorem l_L_98 : lok RL 98 yX14_put := Or.inl (gwt_11 31 rfl rfl)
set_option maxRecDepth 100000 in
theorem l_L_102 : lok RL 102 yX14_store := Or.inl (gwt_11 35 rfl rfl)
set_option maxRecDepth 100000 in
theorem l_L_106 : lok RL 106 yX14_load_ := Or.inl (gwt_11 39 rfl rfl)
set_option maxRecDepth 100000 in
theorem l_L_81 : lok RL 81 yX14_check := Or.inl (gwt_11 43 rfl rfl)
set_option maxRecDepth 100000 in
theorem l_X14_779 : lok RX14 779 yX14_checked := Or.inl (gwt_11 47 rfl rfl)
set_option maxRecDepth 100000 in
theorem l_X14_758 : lok RX14 758 yX14_findGoals := Or.inl (gwt_11 51 rfl rfl)
set_option maxRecDepth 100000 in
theorem l_X14_735 : lok RX14 735 yX14_isInstruction := Or.inl (gwt_11 55 rfl rfl)
set_option maxRecDepth 100000 in
theorem l_X14_738 : lok RX14 738 yX14_isJump := Or.inl (gwt_11 59 rfl rfl)
set_option maxRecDepth 100000 in
theorem l_X14_761 : lok RX14 761 yX14_forget := Or.inl (gwt_11 63 rfl rfl)
set_option maxRecDepth 100000 in
theorem l_X14_767 : lok RX14 767 yX14_reason := Or.inl (gwt_11 67 rfl rfl)
set_option maxRecDepth 100000 in
theorem l_X14_743 : lok RX14 743 yX14_isConfined := Or.inl (gwt_11 71 rfl rfl)
set_option maxRecDepth 100000 in
theorem l_X14_770 : lok RX14 770 yX14_wide := Or.inl (gwt_11 76 rfl rfl)
set_option maxRecDepth 100000 in
theorem l_X14_773 : lok RX14 773 yX14_isAnd := Or.inl (gwt_11 80 rfl rfl)
set_option maxRecDepth 100000 in
theorem l_X14_776 : lok RX14 776 yX14_writes := Or.inl (gwt_11 84 rfl rfl)
set_option maxRecDepth 100000 in
theorem l_L_61 : lok RL 61 yX14_arm := Or.inl (gwt_11 88 rfl rfl)
set_option maxRecDepth 100000 in
theorem l_L_65 : lok RL 65 yX14_match := Or.inl (gwt_11 93 rfl rfl)
set_option maxRecDepth 100000 in
theorem l_X14_783 : lok RX14 783 yX14_arm := Or.inl (gwt_11 97 rfl rfl)
set_option maxRecDepth 100000 in
theorem l_X14_790 : lok RX14 790 yX14_runs := Or.inl (gwt_11 99 rfl rfl)
set_option maxRecDepth 100000 in
theorem l_X14_804 : lok RX14 804 yX14_wants := Or.inl (gwt_11 103 rfl rfl)
set_option maxRecDepth 100000 in
theorem l_X14_801 : lok RX14 801 yX14_isIn := Or.inl (gwt_11 107 rfl rfl)
set_option maxRecDepth 100000 in
theorem l_X14_807 : lok RX14 807 yX14_back := Or.inl (gwt_11 111 rfl rfl)
set_option maxRecDepth 100000 in
theorem l_X14_810 : lok RX14 810 yX14_fits := Or.inl (gwt_11 115 rfl rfl)
set_option maxRecDepth 100000 in
theorem l_X14_813 : lok RX14 813 yX14_entry := Or.inl (gwt_11 119 rfl rfl)
set_option maxRecDepth 100000 in
theorem l_L_69 : lok RL 69 yX14_peak := Or.inl (gwt_11 123 rfl rfl)
set_option maxRecDepth 100000 in
theorem l_L_73 : lok RL 73 yX14_event := Or.inl (gwt_11 127 rfl rfl)
